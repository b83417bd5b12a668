section
/-! MarloweHostModel.sameText(IIII)Z -/
set_option maxRecDepth 100000 in
theorem mq_163 : mt_q 163 = my_163 := rfl
set_option maxRecDepth 100000 in
theorem ci_163 : mt_inc 0 my_163.cd = true := by decide +kernel
theorem cd_163_0 : mt_cd 163 0 = some (.iload_n 2) := mt_cd_of (q := (0, .iload_n 2, 1)) mq_163 ci_163 (List.mem_of_getElem? (i := 0) rfl)
theorem cd_163_1 : mt_cd 163 1 = some (.iload 4) := mt_cd_of (q := (1, .iload 4, 2)) mq_163 ci_163 (List.mem_of_getElem? (i := 1) rfl)
theorem cd_163_3 : mt_cd 163 3 = some (.if_icmp .eq 5) := mt_cd_of (q := (3, .if_icmp .eq 5, 3)) mq_163 ci_163 (List.mem_of_getElem? (i := 2) rfl)
theorem cd_163_6 : mt_cd 163 6 = some (.iconst 0) := mt_cd_of (q := (6, .iconst 0, 1)) mq_163 ci_163 (List.mem_of_getElem? (i := 3) rfl)
theorem cd_163_7 : mt_cd 163 7 = some (.ireturn) := mt_cd_of (q := (7, .ireturn, 1)) mq_163 ci_163 (List.mem_of_getElem? (i := 4) rfl)
theorem cd_163_8 : mt_cd 163 8 = some (.iconst 0) := mt_cd_of (q := (8, .iconst 0, 1)) mq_163 ci_163 (List.mem_of_getElem? (i := 5) rfl)
theorem cd_163_9 : mt_cd 163 9 = some (.istore 5) := mt_cd_of (q := (9, .istore 5, 2)) mq_163 ci_163 (List.mem_of_getElem? (i := 6) rfl)
theorem cd_163_11 : mt_cd 163 11 = some (.iload 5) := mt_cd_of (q := (11, .iload 5, 2)) mq_163 ci_163 (List.mem_of_getElem? (i := 7) rfl)
theorem cd_163_13 : mt_cd 163 13 = some (.iload 4) := mt_cd_of (q := (13, .iload 4, 2)) mq_163 ci_163 (List.mem_of_getElem? (i := 8) rfl)
theorem cd_163_15 : mt_cd 163 15 = some (.if_icmp .ge 32) := mt_cd_of (q := (15, .if_icmp .ge 32, 3)) mq_163 ci_163 (List.mem_of_getElem? (i := 9) rfl)
theorem cd_163_18 : mt_cd 163 18 = some (.aload_n 0) := mt_cd_of (q := (18, .aload_n 0, 1)) mq_163 ci_163 (List.mem_of_getElem? (i := 10) rfl)
theorem cd_163_19 : mt_cd 163 19 = some (.getfield 20) := mt_cd_of (q := (19, .getfield 20, 3)) mq_163 ci_163 (List.mem_of_getElem? (i := 11) rfl)
theorem cd_163_22 : mt_cd 163 22 = some (.iload_n 1) := mt_cd_of (q := (22, .iload_n 1, 1)) mq_163 ci_163 (List.mem_of_getElem? (i := 12) rfl)
theorem cd_163_23 : mt_cd 163 23 = some (.iload 5) := mt_cd_of (q := (23, .iload 5, 2)) mq_163 ci_163 (List.mem_of_getElem? (i := 13) rfl)
theorem cd_163_25 : mt_cd 163 25 = some (.iadd) := mt_cd_of (q := (25, .iadd, 1)) mq_163 ci_163 (List.mem_of_getElem? (i := 14) rfl)
theorem cd_163_26 : mt_cd 163 26 = some (.iaload) := mt_cd_of (q := (26, .iaload, 1)) mq_163 ci_163 (List.mem_of_getElem? (i := 15) rfl)
theorem cd_163_27 : mt_cd 163 27 = some (.aload_n 0) := mt_cd_of (q := (27, .aload_n 0, 1)) mq_163 ci_163 (List.mem_of_getElem? (i := 16) rfl)
theorem cd_163_28 : mt_cd 163 28 = some (.getfield 20) := mt_cd_of (q := (28, .getfield 20, 3)) mq_163 ci_163 (List.mem_of_getElem? (i := 17) rfl)
theorem cd_163_31 : mt_cd 163 31 = some (.iload_n 3) := mt_cd_of (q := (31, .iload_n 3, 1)) mq_163 ci_163 (List.mem_of_getElem? (i := 18) rfl)
theorem cd_163_32 : mt_cd 163 32 = some (.iload 5) := mt_cd_of (q := (32, .iload 5, 2)) mq_163 ci_163 (List.mem_of_getElem? (i := 19) rfl)
theorem cd_163_34 : mt_cd 163 34 = some (.iadd) := mt_cd_of (q := (34, .iadd, 1)) mq_163 ci_163 (List.mem_of_getElem? (i := 20) rfl)
theorem cd_163_35 : mt_cd 163 35 = some (.iaload) := mt_cd_of (q := (35, .iaload, 1)) mq_163 ci_163 (List.mem_of_getElem? (i := 21) rfl)
theorem cd_163_36 : mt_cd 163 36 = some (.if_icmp .eq 5) := mt_cd_of (q := (36, .if_icmp .eq 5, 3)) mq_163 ci_163 (List.mem_of_getElem? (i := 22) rfl)
theorem cd_163_39 : mt_cd 163 39 = some (.iconst 0) := mt_cd_of (q := (39, .iconst 0, 1)) mq_163 ci_163 (List.mem_of_getElem? (i := 23) rfl)
theorem cd_163_40 : mt_cd 163 40 = some (.ireturn) := mt_cd_of (q := (40, .ireturn, 1)) mq_163 ci_163 (List.mem_of_getElem? (i := 24) rfl)
theorem cd_163_41 : mt_cd 163 41 = some (.iinc 5 1) := mt_cd_of (q := (41, .iinc 5 1, 3)) mq_163 ci_163 (List.mem_of_getElem? (i := 25) rfl)
theorem cd_163_44 : mt_cd 163 44 = some (.goto (-33)) := mt_cd_of (q := (44, .goto (-33), 3)) mq_163 ci_163 (List.mem_of_getElem? (i := 26) rfl)
theorem cd_163_47 : mt_cd 163 47 = some (.iconst 1) := mt_cd_of (q := (47, .iconst 1, 1)) mq_163 ci_163 (List.mem_of_getElem? (i := 27) rfl)
theorem cd_163_48 : mt_cd 163 48 = some (.ireturn) := mt_cd_of (q := (48, .ireturn, 1)) mq_163 ci_163 (List.mem_of_getElem? (i := 28) rfl)
theorem b_163_0 {d : Nat} {Q : (Option Value ⊕ Nat) → mi_H → Prop} (n sl : Nat) (f : Nat → mi_C) {l1 : Nat} {l2 : Int32} {l3 : Int32} {l4 : Int32} {l5 : Int32} {o6 : Option Value} (h7 : l3 = l5 → mi_W d 163 8 [some (.ref l1), some (.int l2), some (.int l3), some (.int l4), some (.int l5), o6] [] (n, sl, f) Q) (h8 : ¬ (l3 = l5) → mi_W d 163 6 [some (.ref l1), some (.int l2), some (.int l3), some (.int l4), some (.int l5), o6] [] (n, sl, f) Q) : mi_W d 163 0 [some (.ref l1), some (.int l2), some (.int l3), some (.int l4), some (.int l5), o6] [] (n, sl, f) Q := by
  refine w_iload_n cd_163_0 rfl ?_
  refine w_iload cd_163_1 rfl ?_
  exact w_if_icmpeq cd_163_3 (by decide) h7 h8
theorem b_163_6 {d : Nat} {Q : (Option Value ⊕ Nat) → mi_H → Prop} (n sl : Nat) (f : Nat → mi_C) {l1 : Nat} {l2 : Int32} {l3 : Int32} {l4 : Int32} {l5 : Int32} {o6 : Option Value} (h7 : Q (.inl (some (.int 0))) (n, sl, f)) : mi_W d 163 6 [some (.ref l1), some (.int l2), some (.int l3), some (.int l4), some (.int l5), o6] [] (n, sl, f) Q := by
  refine w_iconst (v := 0) cd_163_6 (by decide) ?_
  exact w_ireturn_z cd_163_7 (by decide +kernel) (by decide) h7
theorem b_163_8 {d : Nat} {Q : (Option Value ⊕ Nat) → mi_H → Prop} (n sl : Nat) (f : Nat → mi_C) {l1 : Nat} {l2 : Int32} {l3 : Int32} {l4 : Int32} {l5 : Int32} {o6 : Option Value} (h7 : mi_W d 163 11 [some (.ref l1), some (.int l2), some (.int l3), some (.int l4), some (.int l5), some (.int 0)] [] (n, sl, f) Q) : mi_W d 163 8 [some (.ref l1), some (.int l2), some (.int l3), some (.int l4), some (.int l5), o6] [] (n, sl, f) Q := by
  refine w_iconst (v := 0) cd_163_8 (by decide) ?_
  refine w_istore (ls' := [some (.ref l1), some (.int l2), some (.int l3), some (.int l4), some (.int l5), some (.int 0)]) cd_163_9 (Nat.le_of_ble_eq_true rfl) rfl ?_
  exact h7
theorem b_163_11 {d : Nat} {Q : (Option Value ⊕ Nat) → mi_H → Prop} (n sl : Nat) (f : Nat → mi_C) {l1 : Nat} {l2 : Int32} {l3 : Int32} {l4 : Int32} {l5 : Int32} {l6 : Int32} (h7 : l5 ≤ l6 → mi_W d 163 47 [some (.ref l1), some (.int l2), some (.int l3), some (.int l4), some (.int l5), some (.int l6)] [] (n, sl, f) Q) (h8 : ¬ (l5 ≤ l6) → mi_W d 163 18 [some (.ref l1), some (.int l2), some (.int l3), some (.int l4), some (.int l5), some (.int l6)] [] (n, sl, f) Q) : mi_W d 163 11 [some (.ref l1), some (.int l2), some (.int l3), some (.int l4), some (.int l5), some (.int l6)] [] (n, sl, f) Q := by
  refine w_iload cd_163_11 rfl ?_
  refine w_iload cd_163_13 rfl ?_
  exact w_if_icmpge cd_163_15 (by decide) h7 h8
theorem b_163_18 {d : Nat} {Q : (Option Value ⊕ Nat) → mi_H → Prop} (n sl : Nat) (f : Nat → mi_C) {l1 : Nat} {l2 : Int32} {l3 : Int32} {l4 : Int32} {l5 : Int32} {l6 : Int32} {fs7 : List Value} {x10 : Nat} (m12 i12 : Nat) (g12 : Nat → Int32) {fs16 : List Value} {x19 : Nat} (m21 i21 : Nat) (g21 : Nat → Int32) (h8 : f l1 = .inr (12, fs7)) (h9 : l1 < n) (h11 : fs7[6]? = some (.ref x10)) (h13 : f x10 = .inl (0, m12, .inl g12)) (h14 : x10 < n ∨ x10 = mi_SC) (h15 : mi_ix (l2 + l6) m12 i12) (h17 : f l1 = .inr (12, fs16)) (h18 : l1 < n) (h20 : fs16[6]? = some (.ref x19)) (h22 : f x19 = .inl (0, m21, .inl g21)) (h23 : x19 < n ∨ x19 = mi_SC) (h24 : mi_ix (l4 + l6) m21 i21) (h25 : (g12 i12) = (g21 i21) → mi_W d 163 41 [some (.ref l1), some (.int l2), some (.int l3), some (.int l4), some (.int l5), some (.int l6)] [] (n, sl, f) Q) (h26 : ¬ ((g12 i12) = (g21 i21)) → mi_W d 163 39 [some (.ref l1), some (.int l2), some (.int l3), some (.int l4), some (.int l5), some (.int l6)] [] (n, sl, f) Q) : mi_W d 163 18 [some (.ref l1), some (.int l2), some (.int l3), some (.int l4), some (.int l5), some (.int l6)] [] (n, sl, f) Q := by
  refine w_aload_n cd_163_18 rfl ?_
  refine w_getfield cd_163_19 (show mt_f 12 20 = some (12, 6) by decide +kernel) h8 h9 h11 ?_
  refine w_iload_n cd_163_22 rfl ?_
  refine w_iload cd_163_23 rfl ?_
  refine w_iadd cd_163_25 ?_
  refine w_iaload cd_163_26 h13 h14 h15 ?_
  refine w_aload_n cd_163_27 rfl ?_
  refine w_getfield cd_163_28 (show mt_f 12 20 = some (12, 6) by decide +kernel) h17 h18 h20 ?_
  refine w_iload_n cd_163_31 rfl ?_
  refine w_iload cd_163_32 rfl ?_
  refine w_iadd cd_163_34 ?_
  refine w_iaload cd_163_35 h22 h23 h24 ?_
  exact w_if_icmpeq cd_163_36 (by decide) h25 h26
theorem b_163_39 {d : Nat} {Q : (Option Value ⊕ Nat) → mi_H → Prop} (n sl : Nat) (f : Nat → mi_C) {l1 : Nat} {l2 : Int32} {l3 : Int32} {l4 : Int32} {l5 : Int32} {l6 : Int32} (h7 : Q (.inl (some (.int 0))) (n, sl, f)) : mi_W d 163 39 [some (.ref l1), some (.int l2), some (.int l3), some (.int l4), some (.int l5), some (.int l6)] [] (n, sl, f) Q := by
  refine w_iconst (v := 0) cd_163_39 (by decide) ?_
  exact w_ireturn_z cd_163_40 (by decide +kernel) (by decide) h7
theorem b_163_41 {d : Nat} {Q : (Option Value ⊕ Nat) → mi_H → Prop} (n sl : Nat) (f : Nat → mi_C) {l1 : Nat} {l2 : Int32} {l3 : Int32} {l4 : Int32} {l5 : Int32} {l6 : Int32} (h7 : mi_W d 163 11 [some (.ref l1), some (.int l2), some (.int l3), some (.int l4), some (.int l5), some (.int (l6 + 1))] [] (n, sl, f) Q) : mi_W d 163 41 [some (.ref l1), some (.int l2), some (.int l3), some (.int l4), some (.int l5), some (.int l6)] [] (n, sl, f) Q := by
  refine w_iinc (v := 1) (ls' := [some (.ref l1), some (.int l2), some (.int l3), some (.int l4), some (.int l5), some (.int (l6 + 1))]) cd_163_41 rfl (by decide) rfl ?_
  exact w_goto cd_163_44 (by decide) h7
theorem b_163_47 {d : Nat} {Q : (Option Value ⊕ Nat) → mi_H → Prop} (n sl : Nat) (f : Nat → mi_C) {l1 : Nat} {l2 : Int32} {l3 : Int32} {l4 : Int32} {l5 : Int32} {l6 : Int32} (h7 : Q (.inl (some (.int 1))) (n, sl, f)) : mi_W d 163 47 [some (.ref l1), some (.int l2), some (.int l3), some (.int l4), some (.int l5), some (.int l6)] [] (n, sl, f) Q := by
  refine w_iconst (v := 1) cd_163_47 (by decide) ?_
  exact w_ireturn_z cd_163_48 (by decide +kernel) (by decide) h7
/-! MarloweHostModel.variable()I -/
set_option maxRecDepth 100000 in
theorem mq_164 : mt_q 164 = my_164 := rfl
set_option maxRecDepth 100000 in
theorem ci_164 : mt_inc 0 my_164.cd = true := by decide +kernel
theorem cd_164_0 : mt_cd 164 0 = some (.aload_n 0) := mt_cd_of (q := (0, .aload_n 0, 1)) mq_164 ci_164 (List.mem_of_getElem? (i := 0) rfl)
theorem cd_164_1 : mt_cd 164 1 = some (.aload_n 0) := mt_cd_of (q := (1, .aload_n 0, 1)) mq_164 ci_164 (List.mem_of_getElem? (i := 1) rfl)
theorem cd_164_2 : mt_cd 164 2 = some (.getfield 123) := mt_cd_of (q := (2, .getfield 123, 3)) mq_164 ci_164 (List.mem_of_getElem? (i := 2) rfl)
theorem cd_164_5 : mt_cd 164 5 = some (.aload_n 0) := mt_cd_of (q := (5, .aload_n 0, 1)) mq_164 ci_164 (List.mem_of_getElem? (i := 3) rfl)
theorem cd_164_6 : mt_cd 164 6 = some (.getfield 126) := mt_cd_of (q := (6, .getfield 126, 3)) mq_164 ci_164 (List.mem_of_getElem? (i := 4) rfl)
theorem cd_164_9 : mt_cd 164 9 = some (.aload_n 0) := mt_cd_of (q := (9, .aload_n 0, 1)) mq_164 ci_164 (List.mem_of_getElem? (i := 5) rfl)
theorem cd_164_10 : mt_cd 164 10 = some (.getfield 352) := mt_cd_of (q := (10, .getfield 352, 3)) mq_164 ci_164 (List.mem_of_getElem? (i := 6) rfl)
theorem cd_164_13 : mt_cd 164 13 = some (.bipush 8) := mt_cd_of (q := (13, .bipush 8, 2)) mq_164 ci_164 (List.mem_of_getElem? (i := 7) rfl)
theorem cd_164_15 : mt_cd 164 15 = some (.invokevirtual 362) := mt_cd_of (q := (15, .invokevirtual 362, 3)) mq_164 ci_164 (List.mem_of_getElem? (i := 8) rfl)
theorem cd_164_18 : mt_cd 164 18 = some (.istore_n 1) := mt_cd_of (q := (18, .istore_n 1, 1)) mq_164 ci_164 (List.mem_of_getElem? (i := 9) rfl)
theorem cd_164_19 : mt_cd 164 19 = some (.iload_n 1) := mt_cd_of (q := (19, .iload_n 1, 1)) mq_164 ci_164 (List.mem_of_getElem? (i := 10) rfl)
theorem cd_164_20 : mt_cd 164 20 = some (.aload_n 0) := mt_cd_of (q := (20, .aload_n 0, 1)) mq_164 ci_164 (List.mem_of_getElem? (i := 11) rfl)
theorem cd_164_21 : mt_cd 164 21 = some (.getfield 352) := mt_cd_of (q := (21, .getfield 352, 3)) mq_164 ci_164 (List.mem_of_getElem? (i := 12) rfl)
theorem cd_164_24 : mt_cd 164 24 = some (.if_icmp .ne 13) := mt_cd_of (q := (24, .if_icmp .ne 13, 3)) mq_164 ci_164 (List.mem_of_getElem? (i := 13) rfl)
theorem cd_164_27 : mt_cd 164 27 = some (.aload_n 0) := mt_cd_of (q := (27, .aload_n 0, 1)) mq_164 ci_164 (List.mem_of_getElem? (i := 14) rfl)
theorem cd_164_28 : mt_cd 164 28 = some (.dup) := mt_cd_of (q := (28, .dup, 1)) mq_164 ci_164 (List.mem_of_getElem? (i := 15) rfl)
theorem cd_164_29 : mt_cd 164 29 = some (.getfield 352) := mt_cd_of (q := (29, .getfield 352, 3)) mq_164 ci_164 (List.mem_of_getElem? (i := 16) rfl)
theorem cd_164_32 : mt_cd 164 32 = some (.iconst 1) := mt_cd_of (q := (32, .iconst 1, 1)) mq_164 ci_164 (List.mem_of_getElem? (i := 17) rfl)
theorem cd_164_33 : mt_cd 164 33 = some (.iadd) := mt_cd_of (q := (33, .iadd, 1)) mq_164 ci_164 (List.mem_of_getElem? (i := 18) rfl)
theorem cd_164_34 : mt_cd 164 34 = some (.putfield 352) := mt_cd_of (q := (34, .putfield 352, 3)) mq_164 ci_164 (List.mem_of_getElem? (i := 19) rfl)
theorem cd_164_37 : mt_cd 164 37 = some (.iload_n 1) := mt_cd_of (q := (37, .iload_n 1, 1)) mq_164 ci_164 (List.mem_of_getElem? (i := 20) rfl)
theorem cd_164_38 : mt_cd 164 38 = some (.ireturn) := mt_cd_of (q := (38, .ireturn, 1)) mq_164 ci_164 (List.mem_of_getElem? (i := 21) rfl)
theorem b_164_0 {d : Nat} {Q : (Option Value ⊕ Nat) → mi_H → Prop} (n sl : Nat) (f : Nat → mi_C) {l1 : Nat} {o2 : Option Value} {fs3 : List Value} {x6 : Nat} {fs8 : List Value} {x11 : Nat} {fs13 : List Value} {x16 : Int32} {fs18 : List Value} (h4 : f l1 = .inr (12, fs3)) (h5 : l1 < n) (h7 : fs3[34]? = some (.ref x6)) (h9 : f l1 = .inr (12, fs8)) (h10 : l1 < n) (h12 : fs8[35]? = some (.ref x11)) (h14 : f l1 = .inr (12, fs13)) (h15 : l1 < n) (h17 : fs13[27]? = some (.int x16)) (h19 : f l1 = .inr (12, fs18)) (h20 : l1 < n) (h21 : mi_W d 158 0 (mi_en 6 [.ref l1, .ref x6, .ref x11, .int x16, .int 8]) [] (n, sl, f) (mi_Kc d 164 15 [some (.ref l1), o2] [] Q)) : mi_W (d + 1) 164 0 [some (.ref l1), o2] [] (n, sl, f) Q := by
  refine w_aload_n cd_164_0 rfl ?_
  refine w_aload_n cd_164_1 rfl ?_
  refine w_getfield cd_164_2 (show mt_f 12 123 = some (12, 34) by decide +kernel) h4 h5 h7 ?_
  refine w_aload_n cd_164_5 rfl ?_
  refine w_getfield cd_164_6 (show mt_f 12 126 = some (12, 35) by decide +kernel) h9 h10 h12 ?_
  refine w_aload_n cd_164_9 rfl ?_
  refine w_getfield cd_164_10 (show mt_f 12 352 = some (12, 27) by decide +kernel) h14 h15 h17 ?_
  refine w_bipush (v := 8) cd_164_13 (by decide) ?_
  exact w_invokevirtual cd_164_15 (show mt_m 12 362 = some (158, 0) by decide +kernel) (rest := []) rfl (as := [.ref l1, .ref x6, .ref x11, .int x16, .int 8]) rfl h19 (Or.inl h20) ⟨Nat.le_of_ble_eq_true rfl, Nat.le_of_ble_eq_true rfl, Nat.le_of_ble_eq_true rfl⟩ h21
theorem b_164_18 {d : Nat} {Q : (Option Value ⊕ Nat) → mi_H → Prop} (n sl : Nat) (f : Nat → mi_C) {l1 : Nat} {o2 : Option Value} {s3 : Int32} {fs4 : List Value} {x7 : Int32} (h5 : f l1 = .inr (12, fs4)) (h6 : l1 < n) (h8 : fs4[27]? = some (.int x7)) (h9 : ¬ s3 = x7 → mi_W d 164 37 [some (.ref l1), some (.int s3)] [] (n, sl, f) Q) (h10 : ¬ (¬ s3 = x7) → mi_W d 164 27 [some (.ref l1), some (.int s3)] [] (n, sl, f) Q) : mi_W d 164 18 [some (.ref l1), o2] [.int s3] (n, sl, f) Q := by
  refine w_istore_n (ls' := [some (.ref l1), some (.int s3)]) cd_164_18 (Nat.le_of_ble_eq_true rfl) rfl ?_
  refine w_iload_n cd_164_19 rfl ?_
  refine w_aload_n cd_164_20 rfl ?_
  refine w_getfield cd_164_21 (show mt_f 12 352 = some (12, 27) by decide +kernel) h5 h6 h8 ?_
  exact w_if_icmpne cd_164_24 (by decide) h9 h10
theorem b_164_27 {d : Nat} {Q : (Option Value ⊕ Nat) → mi_H → Prop} (n sl : Nat) (f : Nat → mi_C) {l1 : Nat} {l2 : Int32} {fs3 : List Value} {x6 : Int32} {fs8 : List Value} (h4 : f l1 = .inr (12, fs3)) (h5 : l1 < n) (h7 : fs3[27]? = some (.int x6)) (h9 : f l1 = .inr (12, fs8)) (h10 : l1 < n) (h11 : 27 < fs8.length) (h12 : mi_W d 164 37 [some (.ref l1), some (.int l2)] [] (n, sl, (va_up f l1 (.inr (12, fs8.set 27 (.int (x6 + 1)))))) Q) : mi_W d 164 27 [some (.ref l1), some (.int l2)] [] (n, sl, f) Q := by
  refine w_aload_n cd_164_27 rfl ?_
  refine w_dup_r cd_164_28 ?_
  refine w_getfield cd_164_29 (show mt_f 12 352 = some (12, 27) by decide +kernel) h4 h5 h7 ?_
  refine w_iconst (v := 1) cd_164_32 (by decide) ?_
  refine w_iadd cd_164_33 ?_
  refine w_putfield (w := .int (x6 + 1)) cd_164_34 (show mt_f 12 352 = some (12, 27) by decide +kernel) h9 h10 ⟨h11, rfl, Or.inl (by decide)⟩ ?_
  exact h12
theorem b_164_37 {d : Nat} {Q : (Option Value ⊕ Nat) → mi_H → Prop} (n sl : Nat) (f : Nat → mi_C) {l1 : Nat} {l2 : Int32} (h3 : Q (.inl (some (.int l2))) (n, sl, f)) : mi_W d 164 37 [some (.ref l1), some (.int l2)] [] (n, sl, f) Q := by
  refine w_iload_n cd_164_37 rfl ?_
  exact w_ireturn_i cd_164_38 (by decide +kernel) h3
/-! MarloweHostModel.observation()I -/
set_option maxRecDepth 100000 in
theorem mq_165 : mt_q 165 = my_165 := rfl
set_option maxRecDepth 100000 in
theorem ci_165 : mt_inc 0 my_165.cd = true := by decide +kernel
theorem cd_165_0 : mt_cd 165 0 = some (.aload_n 0) := mt_cd_of (q := (0, .aload_n 0, 1)) mq_165 ci_165 (List.mem_append_left _ (show _ ∈ my_165_0 from List.mem_of_getElem? (i := 0) rfl))
theorem cd_165_1 : mt_cd 165 1 = some (.ldc_w 373) := mt_cd_of (q := (1, .ldc_w 373, 3)) mq_165 ci_165 (List.mem_append_left _ (show _ ∈ my_165_0 from List.mem_of_getElem? (i := 1) rfl))
theorem cd_165_4 : mt_cd 165 4 = some (.invokevirtual 375) := mt_cd_of (q := (4, .invokevirtual 375, 3)) mq_165 ci_165 (List.mem_append_left _ (show _ ∈ my_165_0 from List.mem_of_getElem? (i := 2) rfl))
theorem cd_165_7 : mt_cd 165 7 = some (.ifCond .eq 58) := mt_cd_of (q := (7, .ifCond .eq 58, 3)) mq_165 ci_165 (List.mem_append_left _ (show _ ∈ my_165_0 from List.mem_of_getElem? (i := 3) rfl))
theorem cd_165_10 : mt_cd 165 10 = some (.aload_n 0) := mt_cd_of (q := (10, .aload_n 0, 1)) mq_165 ci_165 (List.mem_append_left _ (show _ ∈ my_165_0 from List.mem_of_getElem? (i := 4) rfl))
theorem cd_165_11 : mt_cd 165 11 = some (.invokevirtual 378) := mt_cd_of (q := (11, .invokevirtual 378, 3)) mq_165 ci_165 (List.mem_append_left _ (show _ ∈ my_165_0 from List.mem_of_getElem? (i := 5) rfl))
theorem cd_165_14 : mt_cd 165 14 = some (.ifCond .eq 10) := mt_cd_of (q := (14, .ifCond .eq 10, 3)) mq_165 ci_165 (List.mem_append_left _ (show _ ∈ my_165_0 from List.mem_of_getElem? (i := 6) rfl))
theorem cd_165_17 : mt_cd 165 17 = some (.aload_n 0) := mt_cd_of (q := (17, .aload_n 0, 1)) mq_165 ci_165 (List.mem_append_left _ (show _ ∈ my_165_0 from List.mem_of_getElem? (i := 7) rfl))
theorem cd_165_18 : mt_cd 165 18 = some (.invokevirtual 333) := mt_cd_of (q := (18, .invokevirtual 333, 3)) mq_165 ci_165 (List.mem_append_left _ (show _ ∈ my_165_0 from List.mem_of_getElem? (i := 8) rfl))
theorem cd_165_21 : mt_cd 165 21 = some (.ifCond .ne 5) := mt_cd_of (q := (21, .ifCond .ne 5, 3)) mq_165 ci_165 (List.mem_append_left _ (show _ ∈ my_165_0 from List.mem_of_getElem? (i := 9) rfl))
theorem cd_165_24 : mt_cd 165 24 = some (.iconst (-1)) := mt_cd_of (q := (24, .iconst (-1), 1)) mq_165 ci_165 (List.mem_append_left _ (show _ ∈ my_165_0 from List.mem_of_getElem? (i := 10) rfl))
theorem cd_165_25 : mt_cd 165 25 = some (.ireturn) := mt_cd_of (q := (25, .ireturn, 1)) mq_165 ci_165 (List.mem_append_left _ (show _ ∈ my_165_0 from List.mem_of_getElem? (i := 11) rfl))
theorem cd_165_26 : mt_cd 165 26 = some (.aload_n 0) := mt_cd_of (q := (26, .aload_n 0, 1)) mq_165 ci_165 (List.mem_append_left _ (show _ ∈ my_165_0 from List.mem_of_getElem? (i := 12) rfl))
theorem cd_165_27 : mt_cd 165 27 = some (.invokevirtual 401) := mt_cd_of (q := (27, .invokevirtual 401, 3)) mq_165 ci_165 (List.mem_append_left _ (show _ ∈ my_165_0 from List.mem_of_getElem? (i := 13) rfl))
theorem cd_165_30 : mt_cd 165 30 = some (.istore_n 1) := mt_cd_of (q := (30, .istore_n 1, 1)) mq_165 ci_165 (List.mem_append_left _ (show _ ∈ my_165_0 from List.mem_of_getElem? (i := 14) rfl))
theorem cd_165_31 : mt_cd 165 31 = some (.aload_n 0) := mt_cd_of (q := (31, .aload_n 0, 1)) mq_165 ci_165 (List.mem_append_left _ (show _ ∈ my_165_0 from List.mem_of_getElem? (i := 15) rfl))
theorem cd_165_32 : mt_cd 165 32 = some (.dup) := mt_cd_of (q := (32, .dup, 1)) mq_165 ci_165 (List.mem_append_left _ (show _ ∈ my_165_0 from List.mem_of_getElem? (i := 16) rfl))
theorem cd_165_33 : mt_cd 165 33 = some (.getfield 337) := mt_cd_of (q := (33, .getfield 337, 3)) mq_165 ci_165 (List.mem_append_left _ (show _ ∈ my_165_0 from List.mem_of_getElem? (i := 17) rfl))
theorem cd_165_36 : mt_cd 165 36 = some (.iconst 1) := mt_cd_of (q := (36, .iconst 1, 1)) mq_165 ci_165 (List.mem_append_left _ (show _ ∈ my_165_0 from List.mem_of_getElem? (i := 18) rfl))
theorem cd_165_37 : mt_cd 165 37 = some (.isub) := mt_cd_of (q := (37, .isub, 1)) mq_165 ci_165 (List.mem_append_left _ (show _ ∈ my_165_0 from List.mem_of_getElem? (i := 19) rfl))
theorem cd_165_38 : mt_cd 165 38 = some (.putfield 337) := mt_cd_of (q := (38, .putfield 337, 3)) mq_165 ci_165 (List.mem_append_left _ (show _ ∈ my_165_0 from List.mem_of_getElem? (i := 20) rfl))
theorem cd_165_41 : mt_cd 165 41 = some (.iload_n 1) := mt_cd_of (q := (41, .iload_n 1, 1)) mq_165 ci_165 (List.mem_append_left _ (show _ ∈ my_165_0 from List.mem_of_getElem? (i := 21) rfl))
theorem cd_165_42 : mt_cd 165 42 = some (.ifCond .lt 21) := mt_cd_of (q := (42, .ifCond .lt 21, 3)) mq_165 ci_165 (List.mem_append_left _ (show _ ∈ my_165_0 from List.mem_of_getElem? (i := 22) rfl))
theorem cd_165_45 : mt_cd 165 45 = some (.aload_n 0) := mt_cd_of (q := (45, .aload_n 0, 1)) mq_165 ci_165 (List.mem_append_left _ (show _ ∈ my_165_0 from List.mem_of_getElem? (i := 23) rfl))
theorem cd_165_46 : mt_cd 165 46 = some (.aload_n 0) := mt_cd_of (q := (46, .aload_n 0, 1)) mq_165 ci_165 (List.mem_append_left _ (show _ ∈ my_165_0 from List.mem_of_getElem? (i := 24) rfl))
theorem cd_165_47 : mt_cd 165 47 = some (.ldc_w 381) := mt_cd_of (q := (47, .ldc_w 381, 3)) mq_165 ci_165 (List.mem_append_left _ (show _ ∈ my_165_0 from List.mem_of_getElem? (i := 25) rfl))
theorem cd_165_50 : mt_cd 165 50 = some (.invokevirtual 375) := mt_cd_of (q := (50, .invokevirtual 375, 3)) mq_165 ci_165 (List.mem_append_left _ (show _ ∈ my_165_0 from List.mem_of_getElem? (i := 26) rfl))
theorem cd_165_53 : mt_cd 165 53 = some (.invokevirtual 383) := mt_cd_of (q := (53, .invokevirtual 383, 3)) mq_165 ci_165 (List.mem_append_left _ (show _ ∈ my_165_0 from List.mem_of_getElem? (i := 27) rfl))
theorem cd_165_56 : mt_cd 165 56 = some (.ifCond .eq 7) := mt_cd_of (q := (56, .ifCond .eq 7, 3)) mq_165 ci_165 (List.mem_append_left _ (show _ ∈ my_165_0 from List.mem_of_getElem? (i := 28) rfl))
theorem cd_165_59 : mt_cd 165 59 = some (.iload_n 1) := mt_cd_of (q := (59, .iload_n 1, 1)) mq_165 ci_165 (List.mem_append_left _ (show _ ∈ my_165_0 from List.mem_of_getElem? (i := 29) rfl))
theorem cd_165_60 : mt_cd 165 60 = some (.goto 4) := mt_cd_of (q := (60, .goto 4, 3)) mq_165 ci_165 (List.mem_append_left _ (show _ ∈ my_165_0 from List.mem_of_getElem? (i := 30) rfl))
theorem cd_165_63 : mt_cd 165 63 = some (.iconst (-1)) := mt_cd_of (q := (63, .iconst (-1), 1)) mq_165 ci_165 (List.mem_append_left _ (show _ ∈ my_165_0 from List.mem_of_getElem? (i := 31) rfl))
theorem cd_165_64 : mt_cd 165 64 = some (.ireturn) := mt_cd_of (q := (64, .ireturn, 1)) mq_165 ci_165 (List.mem_append_left _ (show _ ∈ my_165_0 from List.mem_of_getElem? (i := 32) rfl))
theorem cd_165_65 : mt_cd 165 65 = some (.aload_n 0) := mt_cd_of (q := (65, .aload_n 0, 1)) mq_165 ci_165 (List.mem_append_left _ (show _ ∈ my_165_0 from List.mem_of_getElem? (i := 33) rfl))
theorem cd_165_66 : mt_cd 165 66 = some (.ldc 61) := mt_cd_of (q := (66, .ldc 61, 2)) mq_165 ci_165 (List.mem_append_left _ (show _ ∈ my_165_0 from List.mem_of_getElem? (i := 34) rfl))
theorem cd_165_68 : mt_cd 165 68 = some (.invokevirtual 387) := mt_cd_of (q := (68, .invokevirtual 387, 3)) mq_165 ci_165 (List.mem_append_left _ (show _ ∈ my_165_0 from List.mem_of_getElem? (i := 35) rfl))
theorem cd_165_71 : mt_cd 165 71 = some (.ifCond .eq 8) := mt_cd_of (q := (71, .ifCond .eq 8, 3)) mq_165 ci_165 (List.mem_append_left _ (show _ ∈ my_165_0 from List.mem_of_getElem? (i := 36) rfl))
theorem cd_165_74 : mt_cd 165 74 = some (.bipush 22) := mt_cd_of (q := (74, .bipush 22, 2)) mq_165 ci_165 (List.mem_append_left _ (show _ ∈ my_165_0 from List.mem_of_getElem? (i := 37) rfl))
theorem cd_165_76 : mt_cd 165 76 = some (.goto 149) := mt_cd_of (q := (76, .goto 149, 3)) mq_165 ci_165 (List.mem_append_left _ (show _ ∈ my_165_0 from List.mem_of_getElem? (i := 38) rfl))
theorem cd_165_79 : mt_cd 165 79 = some (.aload_n 0) := mt_cd_of (q := (79, .aload_n 0, 1)) mq_165 ci_165 (List.mem_append_left _ (show _ ∈ my_165_0 from List.mem_of_getElem? (i := 39) rfl))
theorem cd_165_80 : mt_cd 165 80 = some (.ldc 63) := mt_cd_of (q := (80, .ldc 63, 2)) mq_165 ci_165 (List.mem_append_left _ (show _ ∈ my_165_0 from List.mem_of_getElem? (i := 40) rfl))
theorem cd_165_82 : mt_cd 165 82 = some (.invokevirtual 387) := mt_cd_of (q := (82, .invokevirtual 387, 3)) mq_165 ci_165 (List.mem_append_left _ (show _ ∈ my_165_0 from List.mem_of_getElem? (i := 41) rfl))
theorem cd_165_85 : mt_cd 165 85 = some (.ifCond .eq 8) := mt_cd_of (q := (85, .ifCond .eq 8, 3)) mq_165 ci_165 (List.mem_append_left _ (show _ ∈ my_165_0 from List.mem_of_getElem? (i := 42) rfl))
theorem cd_165_88 : mt_cd 165 88 = some (.bipush 23) := mt_cd_of (q := (88, .bipush 23, 2)) mq_165 ci_165 (List.mem_append_left _ (show _ ∈ my_165_0 from List.mem_of_getElem? (i := 43) rfl))
theorem cd_165_90 : mt_cd 165 90 = some (.goto 135) := mt_cd_of (q := (90, .goto 135, 3)) mq_165 ci_165 (List.mem_append_left _ (show _ ∈ my_165_0 from List.mem_of_getElem? (i := 44) rfl))
theorem cd_165_93 : mt_cd 165 93 = some (.aload_n 0) := mt_cd_of (q := (93, .aload_n 0, 1)) mq_165 ci_165 (List.mem_append_left _ (show _ ∈ my_165_0 from List.mem_of_getElem? (i := 45) rfl))
theorem cd_165_94 : mt_cd 165 94 = some (.ldc 65) := mt_cd_of (q := (94, .ldc 65, 2)) mq_165 ci_165 (List.mem_append_left _ (show _ ∈ my_165_0 from List.mem_of_getElem? (i := 46) rfl))
theorem cd_165_96 : mt_cd 165 96 = some (.invokevirtual 387) := mt_cd_of (q := (96, .invokevirtual 387, 3)) mq_165 ci_165 (List.mem_append_left _ (show _ ∈ my_165_0 from List.mem_of_getElem? (i := 47) rfl))
theorem cd_165_99 : mt_cd 165 99 = some (.ifCond .eq 8) := mt_cd_of (q := (99, .ifCond .eq 8, 3)) mq_165 ci_165 (List.mem_append_left _ (show _ ∈ my_165_0 from List.mem_of_getElem? (i := 48) rfl))
theorem cd_165_102 : mt_cd 165 102 = some (.bipush 24) := mt_cd_of (q := (102, .bipush 24, 2)) mq_165 ci_165 (List.mem_append_left _ (show _ ∈ my_165_0 from List.mem_of_getElem? (i := 49) rfl))
theorem cd_165_104 : mt_cd 165 104 = some (.goto 121) := mt_cd_of (q := (104, .goto 121, 3)) mq_165 ci_165 (List.mem_append_left _ (show _ ∈ my_165_0 from List.mem_of_getElem? (i := 50) rfl))
theorem cd_165_107 : mt_cd 165 107 = some (.aload_n 0) := mt_cd_of (q := (107, .aload_n 0, 1)) mq_165 ci_165 (List.mem_append_left _ (show _ ∈ my_165_0 from List.mem_of_getElem? (i := 51) rfl))
theorem cd_165_108 : mt_cd 165 108 = some (.ldc 67) := mt_cd_of (q := (108, .ldc 67, 2)) mq_165 ci_165 (List.mem_append_left _ (show _ ∈ my_165_0 from List.mem_of_getElem? (i := 52) rfl))
theorem cd_165_110 : mt_cd 165 110 = some (.invokevirtual 387) := mt_cd_of (q := (110, .invokevirtual 387, 3)) mq_165 ci_165 (List.mem_append_left _ (show _ ∈ my_165_0 from List.mem_of_getElem? (i := 53) rfl))
theorem cd_165_113 : mt_cd 165 113 = some (.ifCond .eq 8) := mt_cd_of (q := (113, .ifCond .eq 8, 3)) mq_165 ci_165 (List.mem_append_left _ (show _ ∈ my_165_0 from List.mem_of_getElem? (i := 54) rfl))
theorem cd_165_116 : mt_cd 165 116 = some (.bipush 25) := mt_cd_of (q := (116, .bipush 25, 2)) mq_165 ci_165 (List.mem_append_left _ (show _ ∈ my_165_0 from List.mem_of_getElem? (i := 55) rfl))
theorem cd_165_118 : mt_cd 165 118 = some (.goto 107) := mt_cd_of (q := (118, .goto 107, 3)) mq_165 ci_165 (List.mem_append_left _ (show _ ∈ my_165_0 from List.mem_of_getElem? (i := 56) rfl))
theorem cd_165_121 : mt_cd 165 121 = some (.aload_n 0) := mt_cd_of (q := (121, .aload_n 0, 1)) mq_165 ci_165 (List.mem_append_left _ (show _ ∈ my_165_0 from List.mem_of_getElem? (i := 57) rfl))
theorem cd_165_122 : mt_cd 165 122 = some (.ldc 69) := mt_cd_of (q := (122, .ldc 69, 2)) mq_165 ci_165 (List.mem_append_left _ (show _ ∈ my_165_0 from List.mem_of_getElem? (i := 58) rfl))
theorem cd_165_124 : mt_cd 165 124 = some (.invokevirtual 387) := mt_cd_of (q := (124, .invokevirtual 387, 3)) mq_165 ci_165 (List.mem_append_left _ (show _ ∈ my_165_0 from List.mem_of_getElem? (i := 59) rfl))
theorem cd_165_127 : mt_cd 165 127 = some (.ifCond .eq 8) := mt_cd_of (q := (127, .ifCond .eq 8, 3)) mq_165 ci_165 (List.mem_append_right _ (List.mem_append_left _ (show _ ∈ my_165_1 from List.mem_of_getElem? (i := 0) rfl)))
theorem cd_165_130 : mt_cd 165 130 = some (.bipush 26) := mt_cd_of (q := (130, .bipush 26, 2)) mq_165 ci_165 (List.mem_append_right _ (List.mem_append_left _ (show _ ∈ my_165_1 from List.mem_of_getElem? (i := 1) rfl)))
theorem cd_165_132 : mt_cd 165 132 = some (.goto 93) := mt_cd_of (q := (132, .goto 93, 3)) mq_165 ci_165 (List.mem_append_right _ (List.mem_append_left _ (show _ ∈ my_165_1 from List.mem_of_getElem? (i := 2) rfl)))
theorem cd_165_135 : mt_cd 165 135 = some (.aload_n 0) := mt_cd_of (q := (135, .aload_n 0, 1)) mq_165 ci_165 (List.mem_append_right _ (List.mem_append_left _ (show _ ∈ my_165_1 from List.mem_of_getElem? (i := 3) rfl)))
theorem cd_165_136 : mt_cd 165 136 = some (.ldc 71) := mt_cd_of (q := (136, .ldc 71, 2)) mq_165 ci_165 (List.mem_append_right _ (List.mem_append_left _ (show _ ∈ my_165_1 from List.mem_of_getElem? (i := 4) rfl)))
theorem cd_165_138 : mt_cd 165 138 = some (.invokevirtual 387) := mt_cd_of (q := (138, .invokevirtual 387, 3)) mq_165 ci_165 (List.mem_append_right _ (List.mem_append_left _ (show _ ∈ my_165_1 from List.mem_of_getElem? (i := 5) rfl)))
theorem cd_165_141 : mt_cd 165 141 = some (.ifCond .eq 8) := mt_cd_of (q := (141, .ifCond .eq 8, 3)) mq_165 ci_165 (List.mem_append_right _ (List.mem_append_left _ (show _ ∈ my_165_1 from List.mem_of_getElem? (i := 6) rfl)))
theorem cd_165_144 : mt_cd 165 144 = some (.bipush 27) := mt_cd_of (q := (144, .bipush 27, 2)) mq_165 ci_165 (List.mem_append_right _ (List.mem_append_left _ (show _ ∈ my_165_1 from List.mem_of_getElem? (i := 7) rfl)))
theorem cd_165_146 : mt_cd 165 146 = some (.goto 79) := mt_cd_of (q := (146, .goto 79, 3)) mq_165 ci_165 (List.mem_append_right _ (List.mem_append_left _ (show _ ∈ my_165_1 from List.mem_of_getElem? (i := 8) rfl)))
theorem cd_165_149 : mt_cd 165 149 = some (.aload_n 0) := mt_cd_of (q := (149, .aload_n 0, 1)) mq_165 ci_165 (List.mem_append_right _ (List.mem_append_left _ (show _ ∈ my_165_1 from List.mem_of_getElem? (i := 9) rfl)))
theorem cd_165_150 : mt_cd 165 150 = some (.ldc_w 427) := mt_cd_of (q := (150, .ldc_w 427, 3)) mq_165 ci_165 (List.mem_append_right _ (List.mem_append_left _ (show _ ∈ my_165_1 from List.mem_of_getElem? (i := 10) rfl)))
theorem cd_165_153 : mt_cd 165 153 = some (.invokevirtual 375) := mt_cd_of (q := (153, .invokevirtual 375, 3)) mq_165 ci_165 (List.mem_append_right _ (List.mem_append_left _ (show _ ∈ my_165_1 from List.mem_of_getElem? (i := 11) rfl)))
theorem cd_165_156 : mt_cd 165 156 = some (.ifCond .eq 8) := mt_cd_of (q := (156, .ifCond .eq 8, 3)) mq_165 ci_165 (List.mem_append_right _ (List.mem_append_left _ (show _ ∈ my_165_1 from List.mem_of_getElem? (i := 12) rfl)))
theorem cd_165_159 : mt_cd 165 159 = some (.bipush 28) := mt_cd_of (q := (159, .bipush 28, 2)) mq_165 ci_165 (List.mem_append_right _ (List.mem_append_left _ (show _ ∈ my_165_1 from List.mem_of_getElem? (i := 13) rfl)))
theorem cd_165_161 : mt_cd 165 161 = some (.goto 64) := mt_cd_of (q := (161, .goto 64, 3)) mq_165 ci_165 (List.mem_append_right _ (List.mem_append_left _ (show _ ∈ my_165_1 from List.mem_of_getElem? (i := 14) rfl)))
theorem cd_165_164 : mt_cd 165 164 = some (.aload_n 0) := mt_cd_of (q := (164, .aload_n 0, 1)) mq_165 ci_165 (List.mem_append_right _ (List.mem_append_left _ (show _ ∈ my_165_1 from List.mem_of_getElem? (i := 15) rfl)))
theorem cd_165_165 : mt_cd 165 165 = some (.ldc_w 429) := mt_cd_of (q := (165, .ldc_w 429, 3)) mq_165 ci_165 (List.mem_append_right _ (List.mem_append_left _ (show _ ∈ my_165_1 from List.mem_of_getElem? (i := 16) rfl)))
theorem cd_165_168 : mt_cd 165 168 = some (.invokevirtual 375) := mt_cd_of (q := (168, .invokevirtual 375, 3)) mq_165 ci_165 (List.mem_append_right _ (List.mem_append_left _ (show _ ∈ my_165_1 from List.mem_of_getElem? (i := 17) rfl)))
theorem cd_165_171 : mt_cd 165 171 = some (.ifCond .eq 8) := mt_cd_of (q := (171, .ifCond .eq 8, 3)) mq_165 ci_165 (List.mem_append_right _ (List.mem_append_left _ (show _ ∈ my_165_1 from List.mem_of_getElem? (i := 18) rfl)))
theorem cd_165_174 : mt_cd 165 174 = some (.bipush 29) := mt_cd_of (q := (174, .bipush 29, 2)) mq_165 ci_165 (List.mem_append_right _ (List.mem_append_left _ (show _ ∈ my_165_1 from List.mem_of_getElem? (i := 19) rfl)))
theorem cd_165_176 : mt_cd 165 176 = some (.goto 49) := mt_cd_of (q := (176, .goto 49, 3)) mq_165 ci_165 (List.mem_append_right _ (List.mem_append_left _ (show _ ∈ my_165_1 from List.mem_of_getElem? (i := 20) rfl)))
theorem cd_165_179 : mt_cd 165 179 = some (.aload_n 0) := mt_cd_of (q := (179, .aload_n 0, 1)) mq_165 ci_165 (List.mem_append_right _ (List.mem_append_left _ (show _ ∈ my_165_1 from List.mem_of_getElem? (i := 21) rfl)))
theorem cd_165_180 : mt_cd 165 180 = some (.ldc_w 431) := mt_cd_of (q := (180, .ldc_w 431, 3)) mq_165 ci_165 (List.mem_append_right _ (List.mem_append_left _ (show _ ∈ my_165_1 from List.mem_of_getElem? (i := 22) rfl)))
theorem cd_165_183 : mt_cd 165 183 = some (.invokevirtual 375) := mt_cd_of (q := (183, .invokevirtual 375, 3)) mq_165 ci_165 (List.mem_append_right _ (List.mem_append_left _ (show _ ∈ my_165_1 from List.mem_of_getElem? (i := 23) rfl)))
theorem cd_165_186 : mt_cd 165 186 = some (.ifCond .eq 8) := mt_cd_of (q := (186, .ifCond .eq 8, 3)) mq_165 ci_165 (List.mem_append_right _ (List.mem_append_left _ (show _ ∈ my_165_1 from List.mem_of_getElem? (i := 24) rfl)))
theorem cd_165_189 : mt_cd 165 189 = some (.bipush 30) := mt_cd_of (q := (189, .bipush 30, 2)) mq_165 ci_165 (List.mem_append_right _ (List.mem_append_left _ (show _ ∈ my_165_1 from List.mem_of_getElem? (i := 25) rfl)))
theorem cd_165_191 : mt_cd 165 191 = some (.goto 34) := mt_cd_of (q := (191, .goto 34, 3)) mq_165 ci_165 (List.mem_append_right _ (List.mem_append_left _ (show _ ∈ my_165_1 from List.mem_of_getElem? (i := 26) rfl)))
theorem cd_165_194 : mt_cd 165 194 = some (.aload_n 0) := mt_cd_of (q := (194, .aload_n 0, 1)) mq_165 ci_165 (List.mem_append_right _ (List.mem_append_left _ (show _ ∈ my_165_1 from List.mem_of_getElem? (i := 27) rfl)))
theorem cd_165_195 : mt_cd 165 195 = some (.ldc_w 433) := mt_cd_of (q := (195, .ldc_w 433, 3)) mq_165 ci_165 (List.mem_append_right _ (List.mem_append_left _ (show _ ∈ my_165_1 from List.mem_of_getElem? (i := 28) rfl)))
theorem cd_165_198 : mt_cd 165 198 = some (.invokevirtual 375) := mt_cd_of (q := (198, .invokevirtual 375, 3)) mq_165 ci_165 (List.mem_append_right _ (List.mem_append_left _ (show _ ∈ my_165_1 from List.mem_of_getElem? (i := 29) rfl)))
theorem cd_165_201 : mt_cd 165 201 = some (.ifCond .eq 8) := mt_cd_of (q := (201, .ifCond .eq 8, 3)) mq_165 ci_165 (List.mem_append_right _ (List.mem_append_left _ (show _ ∈ my_165_1 from List.mem_of_getElem? (i := 30) rfl)))
theorem cd_165_204 : mt_cd 165 204 = some (.bipush 31) := mt_cd_of (q := (204, .bipush 31, 2)) mq_165 ci_165 (List.mem_append_right _ (List.mem_append_left _ (show _ ∈ my_165_1 from List.mem_of_getElem? (i := 31) rfl)))
theorem cd_165_206 : mt_cd 165 206 = some (.goto 19) := mt_cd_of (q := (206, .goto 19, 3)) mq_165 ci_165 (List.mem_append_right _ (List.mem_append_left _ (show _ ∈ my_165_1 from List.mem_of_getElem? (i := 32) rfl)))
theorem cd_165_209 : mt_cd 165 209 = some (.aload_n 0) := mt_cd_of (q := (209, .aload_n 0, 1)) mq_165 ci_165 (List.mem_append_right _ (List.mem_append_left _ (show _ ∈ my_165_1 from List.mem_of_getElem? (i := 33) rfl)))
theorem cd_165_210 : mt_cd 165 210 = some (.ldc_w 435) := mt_cd_of (q := (210, .ldc_w 435, 3)) mq_165 ci_165 (List.mem_append_right _ (List.mem_append_left _ (show _ ∈ my_165_1 from List.mem_of_getElem? (i := 34) rfl)))
theorem cd_165_213 : mt_cd 165 213 = some (.invokevirtual 375) := mt_cd_of (q := (213, .invokevirtual 375, 3)) mq_165 ci_165 (List.mem_append_right _ (List.mem_append_left _ (show _ ∈ my_165_1 from List.mem_of_getElem? (i := 35) rfl)))
theorem cd_165_216 : mt_cd 165 216 = some (.ifCond .eq 8) := mt_cd_of (q := (216, .ifCond .eq 8, 3)) mq_165 ci_165 (List.mem_append_right _ (List.mem_append_left _ (show _ ∈ my_165_1 from List.mem_of_getElem? (i := 36) rfl)))
theorem cd_165_219 : mt_cd 165 219 = some (.bipush 32) := mt_cd_of (q := (219, .bipush 32, 2)) mq_165 ci_165 (List.mem_append_right _ (List.mem_append_left _ (show _ ∈ my_165_1 from List.mem_of_getElem? (i := 37) rfl)))
theorem cd_165_221 : mt_cd 165 221 = some (.goto 4) := mt_cd_of (q := (221, .goto 4, 3)) mq_165 ci_165 (List.mem_append_right _ (List.mem_append_left _ (show _ ∈ my_165_1 from List.mem_of_getElem? (i := 38) rfl)))
theorem cd_165_224 : mt_cd 165 224 = some (.iconst (-1)) := mt_cd_of (q := (224, .iconst (-1), 1)) mq_165 ci_165 (List.mem_append_right _ (List.mem_append_left _ (show _ ∈ my_165_1 from List.mem_of_getElem? (i := 39) rfl)))
theorem cd_165_225 : mt_cd 165 225 = some (.istore_n 1) := mt_cd_of (q := (225, .istore_n 1, 1)) mq_165 ci_165 (List.mem_append_right _ (List.mem_append_left _ (show _ ∈ my_165_1 from List.mem_of_getElem? (i := 40) rfl)))
theorem cd_165_226 : mt_cd 165 226 = some (.iload_n 1) := mt_cd_of (q := (226, .iload_n 1, 1)) mq_165 ci_165 (List.mem_append_right _ (List.mem_append_left _ (show _ ∈ my_165_1 from List.mem_of_getElem? (i := 41) rfl)))
theorem cd_165_227 : mt_cd 165 227 = some (.ifCond .ge 14) := mt_cd_of (q := (227, .ifCond .ge 14, 3)) mq_165 ci_165 (List.mem_append_right _ (List.mem_append_left _ (show _ ∈ my_165_1 from List.mem_of_getElem? (i := 42) rfl)))
theorem cd_165_230 : mt_cd 165 230 = some (.aload_n 0) := mt_cd_of (q := (230, .aload_n 0, 1)) mq_165 ci_165 (List.mem_append_right _ (List.mem_append_left _ (show _ ∈ my_165_1 from List.mem_of_getElem? (i := 43) rfl)))
theorem cd_165_231 : mt_cd 165 231 = some (.aload_n 0) := mt_cd_of (q := (231, .aload_n 0, 1)) mq_165 ci_165 (List.mem_append_right _ (List.mem_append_left _ (show _ ∈ my_165_1 from List.mem_of_getElem? (i := 44) rfl)))
theorem cd_165_232 : mt_cd 165 232 = some (.getfield 299) := mt_cd_of (q := (232, .getfield 299, 3)) mq_165 ci_165 (List.mem_append_right _ (List.mem_append_left _ (show _ ∈ my_165_1 from List.mem_of_getElem? (i := 45) rfl)))
theorem cd_165_235 : mt_cd 165 235 = some (.invokevirtual 272) := mt_cd_of (q := (235, .invokevirtual 272, 3)) mq_165 ci_165 (List.mem_append_right _ (List.mem_append_left _ (show _ ∈ my_165_1 from List.mem_of_getElem? (i := 46) rfl)))
theorem cd_165_238 : mt_cd 165 238 = some (.pop) := mt_cd_of (q := (238, .pop, 1)) mq_165 ci_165 (List.mem_append_right _ (List.mem_append_left _ (show _ ∈ my_165_1 from List.mem_of_getElem? (i := 47) rfl)))
theorem cd_165_239 : mt_cd 165 239 = some (.iconst (-1)) := mt_cd_of (q := (239, .iconst (-1), 1)) mq_165 ci_165 (List.mem_append_right _ (List.mem_append_left _ (show _ ∈ my_165_1 from List.mem_of_getElem? (i := 48) rfl)))
theorem cd_165_240 : mt_cd 165 240 = some (.ireturn) := mt_cd_of (q := (240, .ireturn, 1)) mq_165 ci_165 (List.mem_append_right _ (List.mem_append_left _ (show _ ∈ my_165_1 from List.mem_of_getElem? (i := 49) rfl)))
theorem cd_165_241 : mt_cd 165 241 = some (.aload_n 0) := mt_cd_of (q := (241, .aload_n 0, 1)) mq_165 ci_165 (List.mem_append_right _ (List.mem_append_left _ (show _ ∈ my_165_1 from List.mem_of_getElem? (i := 50) rfl)))
theorem cd_165_242 : mt_cd 165 242 = some (.invokevirtual 378) := mt_cd_of (q := (242, .invokevirtual 378, 3)) mq_165 ci_165 (List.mem_append_right _ (List.mem_append_left _ (show _ ∈ my_165_1 from List.mem_of_getElem? (i := 51) rfl)))
theorem cd_165_245 : mt_cd 165 245 = some (.ifCond .ne 5) := mt_cd_of (q := (245, .ifCond .ne 5, 3)) mq_165 ci_165 (List.mem_append_right _ (List.mem_append_left _ (show _ ∈ my_165_1 from List.mem_of_getElem? (i := 52) rfl)))
theorem cd_165_248 : mt_cd 165 248 = some (.iconst (-1)) := mt_cd_of (q := (248, .iconst (-1), 1)) mq_165 ci_165 (List.mem_append_right _ (List.mem_append_left _ (show _ ∈ my_165_1 from List.mem_of_getElem? (i := 53) rfl)))
theorem cd_165_249 : mt_cd 165 249 = some (.ireturn) := mt_cd_of (q := (249, .ireturn, 1)) mq_165 ci_165 (List.mem_append_right _ (List.mem_append_left _ (show _ ∈ my_165_1 from List.mem_of_getElem? (i := 54) rfl)))
theorem cd_165_250 : mt_cd 165 250 = some (.aload_n 0) := mt_cd_of (q := (250, .aload_n 0, 1)) mq_165 ci_165 (List.mem_append_right _ (List.mem_append_left _ (show _ ∈ my_165_1 from List.mem_of_getElem? (i := 55) rfl)))
theorem cd_165_251 : mt_cd 165 251 = some (.iload_n 1) := mt_cd_of (q := (251, .iload_n 1, 1)) mq_165 ci_165 (List.mem_append_right _ (List.mem_append_left _ (show _ ∈ my_165_1 from List.mem_of_getElem? (i := 56) rfl)))
theorem cd_165_252 : mt_cd 165 252 = some (.invokevirtual 390) := mt_cd_of (q := (252, .invokevirtual 390, 3)) mq_165 ci_165 (List.mem_append_right _ (List.mem_append_left _ (show _ ∈ my_165_1 from List.mem_of_getElem? (i := 57) rfl)))
theorem cd_165_255 : mt_cd 165 255 = some (.istore_n 2) := mt_cd_of (q := (255, .istore_n 2, 1)) mq_165 ci_165 (List.mem_append_right _ (List.mem_append_left _ (show _ ∈ my_165_1 from List.mem_of_getElem? (i := 58) rfl)))
theorem cd_165_256 : mt_cd 165 256 = some (.iload_n 2) := mt_cd_of (q := (256, .iload_n 2, 1)) mq_165 ci_165 (List.mem_append_right _ (List.mem_append_left _ (show _ ∈ my_165_1 from List.mem_of_getElem? (i := 59) rfl)))
theorem cd_165_257 : mt_cd 165 257 = some (.ifCond .lt 14) := mt_cd_of (q := (257, .ifCond .lt 14, 3)) mq_165 ci_165 (List.mem_append_right _ (List.mem_append_right _ (List.mem_append_left _ (show _ ∈ my_165_2 from List.mem_of_getElem? (i := 0) rfl))))
theorem cd_165_260 : mt_cd 165 260 = some (.aload_n 0) := mt_cd_of (q := (260, .aload_n 0, 1)) mq_165 ci_165 (List.mem_append_right _ (List.mem_append_right _ (List.mem_append_left _ (show _ ∈ my_165_2 from List.mem_of_getElem? (i := 1) rfl))))
theorem cd_165_261 : mt_cd 165 261 = some (.invokevirtual 333) := mt_cd_of (q := (261, .invokevirtual 333, 3)) mq_165 ci_165 (List.mem_append_right _ (List.mem_append_right _ (List.mem_append_left _ (show _ ∈ my_165_2 from List.mem_of_getElem? (i := 2) rfl))))
theorem cd_165_264 : mt_cd 165 264 = some (.ifCond .eq 7) := mt_cd_of (q := (264, .ifCond .eq 7, 3)) mq_165 ci_165 (List.mem_append_right _ (List.mem_append_right _ (List.mem_append_left _ (show _ ∈ my_165_2 from List.mem_of_getElem? (i := 3) rfl))))
theorem cd_165_267 : mt_cd 165 267 = some (.iconst 1) := mt_cd_of (q := (267, .iconst 1, 1)) mq_165 ci_165 (List.mem_append_right _ (List.mem_append_right _ (List.mem_append_left _ (show _ ∈ my_165_2 from List.mem_of_getElem? (i := 4) rfl))))
theorem cd_165_268 : mt_cd 165 268 = some (.goto 4) := mt_cd_of (q := (268, .goto 4, 3)) mq_165 ci_165 (List.mem_append_right _ (List.mem_append_right _ (List.mem_append_left _ (show _ ∈ my_165_2 from List.mem_of_getElem? (i := 5) rfl))))
theorem cd_165_271 : mt_cd 165 271 = some (.iconst 0) := mt_cd_of (q := (271, .iconst 0, 1)) mq_165 ci_165 (List.mem_append_right _ (List.mem_append_right _ (List.mem_append_left _ (show _ ∈ my_165_2 from List.mem_of_getElem? (i := 6) rfl))))
theorem cd_165_272 : mt_cd 165 272 = some (.istore_n 3) := mt_cd_of (q := (272, .istore_n 3, 1)) mq_165 ci_165 (List.mem_append_right _ (List.mem_append_right _ (List.mem_append_left _ (show _ ∈ my_165_2 from List.mem_of_getElem? (i := 7) rfl))))
theorem cd_165_273 : mt_cd 165 273 = some (.iload_n 3) := mt_cd_of (q := (273, .iload_n 3, 1)) mq_165 ci_165 (List.mem_append_right _ (List.mem_append_right _ (List.mem_append_left _ (show _ ∈ my_165_2 from List.mem_of_getElem? (i := 8) rfl))))
theorem cd_165_274 : mt_cd 165 274 = some (.ifCond .eq 162) := mt_cd_of (q := (274, .ifCond .eq 162, 3)) mq_165 ci_165 (List.mem_append_right _ (List.mem_append_right _ (List.mem_append_left _ (show _ ∈ my_165_2 from List.mem_of_getElem? (i := 9) rfl))))
theorem cd_165_277 : mt_cd 165 277 = some (.iload_n 1) := mt_cd_of (q := (277, .iload_n 1, 1)) mq_165 ci_165 (List.mem_append_right _ (List.mem_append_right _ (List.mem_append_left _ (show _ ∈ my_165_2 from List.mem_of_getElem? (i := 10) rfl))))
theorem cd_165_278 : mt_cd 165 278 = some (.tableswitch 124 22 27 #[121, 121, 38, 38, 75, 98]) := mt_cd_of (q := (278, .tableswitch 124 22 27 #[121, 121, 38, 38, 75, 98], 38)) mq_165 ci_165 (List.mem_append_right _ (List.mem_append_right _ (List.mem_append_left _ (show _ ∈ my_165_2 from List.mem_of_getElem? (i := 11) rfl))))
theorem cd_165_316 : mt_cd 165 316 = some (.aload_n 0) := mt_cd_of (q := (316, .aload_n 0, 1)) mq_165 ci_165 (List.mem_append_right _ (List.mem_append_right _ (List.mem_append_left _ (show _ ∈ my_165_2 from List.mem_of_getElem? (i := 12) rfl))))
theorem cd_165_317 : mt_cd 165 317 = some (.getfield 80) := mt_cd_of (q := (317, .getfield 80, 3)) mq_165 ci_165 (List.mem_append_right _ (List.mem_append_right _ (List.mem_append_left _ (show _ ∈ my_165_2 from List.mem_of_getElem? (i := 13) rfl))))
theorem cd_165_320 : mt_cd 165 320 = some (.iload_n 2) := mt_cd_of (q := (320, .iload_n 2, 1)) mq_165 ci_165 (List.mem_append_right _ (List.mem_append_right _ (List.mem_append_left _ (show _ ∈ my_165_2 from List.mem_of_getElem? (i := 14) rfl))))
theorem cd_165_321 : mt_cd 165 321 = some (.aload_n 0) := mt_cd_of (q := (321, .aload_n 0, 1)) mq_165 ci_165 (List.mem_append_right _ (List.mem_append_right _ (List.mem_append_left _ (show _ ∈ my_165_2 from List.mem_of_getElem? (i := 15) rfl))))
theorem cd_165_322 : mt_cd 165 322 = some (.invokevirtual 401) := mt_cd_of (q := (322, .invokevirtual 401, 3)) mq_165 ci_165 (List.mem_append_right _ (List.mem_append_right _ (List.mem_append_left _ (show _ ∈ my_165_2 from List.mem_of_getElem? (i := 16) rfl))))
theorem cd_165_325 : mt_cd 165 325 = some (.dup_x2) := mt_cd_of (q := (325, .dup_x2, 1)) mq_165 ci_165 (List.mem_append_right _ (List.mem_append_right _ (List.mem_append_left _ (show _ ∈ my_165_2 from List.mem_of_getElem? (i := 17) rfl))))
theorem cd_165_326 : mt_cd 165 326 = some (.iastore) := mt_cd_of (q := (326, .iastore, 1)) mq_165 ci_165 (List.mem_append_right _ (List.mem_append_right _ (List.mem_append_left _ (show _ ∈ my_165_2 from List.mem_of_getElem? (i := 18) rfl))))
theorem cd_165_327 : mt_cd 165 327 = some (.ifCond .lt 21) := mt_cd_of (q := (327, .ifCond .lt 21, 3)) mq_165 ci_165 (List.mem_append_right _ (List.mem_append_right _ (List.mem_append_left _ (show _ ∈ my_165_2 from List.mem_of_getElem? (i := 19) rfl))))
theorem cd_165_330 : mt_cd 165 330 = some (.aload_n 0) := mt_cd_of (q := (330, .aload_n 0, 1)) mq_165 ci_165 (List.mem_append_right _ (List.mem_append_right _ (List.mem_append_left _ (show _ ∈ my_165_2 from List.mem_of_getElem? (i := 20) rfl))))
theorem cd_165_331 : mt_cd 165 331 = some (.getfield 83) := mt_cd_of (q := (331, .getfield 83, 3)) mq_165 ci_165 (List.mem_append_right _ (List.mem_append_right _ (List.mem_append_left _ (show _ ∈ my_165_2 from List.mem_of_getElem? (i := 21) rfl))))
theorem cd_165_334 : mt_cd 165 334 = some (.iload_n 2) := mt_cd_of (q := (334, .iload_n 2, 1)) mq_165 ci_165 (List.mem_append_right _ (List.mem_append_right _ (List.mem_append_left _ (show _ ∈ my_165_2 from List.mem_of_getElem? (i := 22) rfl))))
theorem cd_165_335 : mt_cd 165 335 = some (.aload_n 0) := mt_cd_of (q := (335, .aload_n 0, 1)) mq_165 ci_165 (List.mem_append_right _ (List.mem_append_right _ (List.mem_append_left _ (show _ ∈ my_165_2 from List.mem_of_getElem? (i := 23) rfl))))
theorem cd_165_336 : mt_cd 165 336 = some (.invokevirtual 401) := mt_cd_of (q := (336, .invokevirtual 401, 3)) mq_165 ci_165 (List.mem_append_right _ (List.mem_append_right _ (List.mem_append_left _ (show _ ∈ my_165_2 from List.mem_of_getElem? (i := 24) rfl))))
theorem cd_165_339 : mt_cd 165 339 = some (.dup_x2) := mt_cd_of (q := (339, .dup_x2, 1)) mq_165 ci_165 (List.mem_append_right _ (List.mem_append_right _ (List.mem_append_left _ (show _ ∈ my_165_2 from List.mem_of_getElem? (i := 25) rfl))))
theorem cd_165_340 : mt_cd 165 340 = some (.iastore) := mt_cd_of (q := (340, .iastore, 1)) mq_165 ci_165 (List.mem_append_right _ (List.mem_append_right _ (List.mem_append_left _ (show _ ∈ my_165_2 from List.mem_of_getElem? (i := 26) rfl))))
theorem cd_165_341 : mt_cd 165 341 = some (.ifCond .lt 7) := mt_cd_of (q := (341, .ifCond .lt 7, 3)) mq_165 ci_165 (List.mem_append_right _ (List.mem_append_right _ (List.mem_append_left _ (show _ ∈ my_165_2 from List.mem_of_getElem? (i := 27) rfl))))
theorem cd_165_344 : mt_cd 165 344 = some (.iconst 1) := mt_cd_of (q := (344, .iconst 1, 1)) mq_165 ci_165 (List.mem_append_right _ (List.mem_append_right _ (List.mem_append_left _ (show _ ∈ my_165_2 from List.mem_of_getElem? (i := 28) rfl))))
theorem cd_165_345 : mt_cd 165 345 = some (.goto 4) := mt_cd_of (q := (345, .goto 4, 3)) mq_165 ci_165 (List.mem_append_right _ (List.mem_append_right _ (List.mem_append_left _ (show _ ∈ my_165_2 from List.mem_of_getElem? (i := 29) rfl))))
theorem cd_165_348 : mt_cd 165 348 = some (.iconst 0) := mt_cd_of (q := (348, .iconst 0, 1)) mq_165 ci_165 (List.mem_append_right _ (List.mem_append_right _ (List.mem_append_left _ (show _ ∈ my_165_2 from List.mem_of_getElem? (i := 30) rfl))))
theorem cd_165_349 : mt_cd 165 349 = some (.istore_n 3) := mt_cd_of (q := (349, .istore_n 3, 1)) mq_165 ci_165 (List.mem_append_right _ (List.mem_append_right _ (List.mem_append_left _ (show _ ∈ my_165_2 from List.mem_of_getElem? (i := 31) rfl))))
theorem cd_165_350 : mt_cd 165 350 = some (.goto 86) := mt_cd_of (q := (350, .goto 86, 3)) mq_165 ci_165 (List.mem_append_right _ (List.mem_append_right _ (List.mem_append_left _ (show _ ∈ my_165_2 from List.mem_of_getElem? (i := 32) rfl))))
theorem cd_165_353 : mt_cd 165 353 = some (.aload_n 0) := mt_cd_of (q := (353, .aload_n 0, 1)) mq_165 ci_165 (List.mem_append_right _ (List.mem_append_right _ (List.mem_append_left _ (show _ ∈ my_165_2 from List.mem_of_getElem? (i := 33) rfl))))
theorem cd_165_354 : mt_cd 165 354 = some (.getfield 80) := mt_cd_of (q := (354, .getfield 80, 3)) mq_165 ci_165 (List.mem_append_right _ (List.mem_append_right _ (List.mem_append_left _ (show _ ∈ my_165_2 from List.mem_of_getElem? (i := 34) rfl))))
theorem cd_165_357 : mt_cd 165 357 = some (.iload_n 2) := mt_cd_of (q := (357, .iload_n 2, 1)) mq_165 ci_165 (List.mem_append_right _ (List.mem_append_right _ (List.mem_append_left _ (show _ ∈ my_165_2 from List.mem_of_getElem? (i := 35) rfl))))
theorem cd_165_358 : mt_cd 165 358 = some (.aload_n 0) := mt_cd_of (q := (358, .aload_n 0, 1)) mq_165 ci_165 (List.mem_append_right _ (List.mem_append_right _ (List.mem_append_left _ (show _ ∈ my_165_2 from List.mem_of_getElem? (i := 36) rfl))))
theorem cd_165_359 : mt_cd 165 359 = some (.invokevirtual 401) := mt_cd_of (q := (359, .invokevirtual 401, 3)) mq_165 ci_165 (List.mem_append_right _ (List.mem_append_right _ (List.mem_append_left _ (show _ ∈ my_165_2 from List.mem_of_getElem? (i := 37) rfl))))
theorem cd_165_362 : mt_cd 165 362 = some (.dup_x2) := mt_cd_of (q := (362, .dup_x2, 1)) mq_165 ci_165 (List.mem_append_right _ (List.mem_append_right _ (List.mem_append_left _ (show _ ∈ my_165_2 from List.mem_of_getElem? (i := 38) rfl))))
theorem cd_165_363 : mt_cd 165 363 = some (.iastore) := mt_cd_of (q := (363, .iastore, 1)) mq_165 ci_165 (List.mem_append_right _ (List.mem_append_right _ (List.mem_append_left _ (show _ ∈ my_165_2 from List.mem_of_getElem? (i := 39) rfl))))
theorem cd_165_364 : mt_cd 165 364 = some (.ifCond .lt 7) := mt_cd_of (q := (364, .ifCond .lt 7, 3)) mq_165 ci_165 (List.mem_append_right _ (List.mem_append_right _ (List.mem_append_left _ (show _ ∈ my_165_2 from List.mem_of_getElem? (i := 40) rfl))))
theorem cd_165_367 : mt_cd 165 367 = some (.iconst 1) := mt_cd_of (q := (367, .iconst 1, 1)) mq_165 ci_165 (List.mem_append_right _ (List.mem_append_right _ (List.mem_append_left _ (show _ ∈ my_165_2 from List.mem_of_getElem? (i := 41) rfl))))
theorem cd_165_368 : mt_cd 165 368 = some (.goto 4) := mt_cd_of (q := (368, .goto 4, 3)) mq_165 ci_165 (List.mem_append_right _ (List.mem_append_right _ (List.mem_append_left _ (show _ ∈ my_165_2 from List.mem_of_getElem? (i := 42) rfl))))
theorem cd_165_371 : mt_cd 165 371 = some (.iconst 0) := mt_cd_of (q := (371, .iconst 0, 1)) mq_165 ci_165 (List.mem_append_right _ (List.mem_append_right _ (List.mem_append_left _ (show _ ∈ my_165_2 from List.mem_of_getElem? (i := 43) rfl))))
theorem cd_165_372 : mt_cd 165 372 = some (.istore_n 3) := mt_cd_of (q := (372, .istore_n 3, 1)) mq_165 ci_165 (List.mem_append_right _ (List.mem_append_right _ (List.mem_append_left _ (show _ ∈ my_165_2 from List.mem_of_getElem? (i := 44) rfl))))
theorem cd_165_373 : mt_cd 165 373 = some (.goto 63) := mt_cd_of (q := (373, .goto 63, 3)) mq_165 ci_165 (List.mem_append_right _ (List.mem_append_right _ (List.mem_append_left _ (show _ ∈ my_165_2 from List.mem_of_getElem? (i := 45) rfl))))
theorem cd_165_376 : mt_cd 165 376 = some (.aload_n 0) := mt_cd_of (q := (376, .aload_n 0, 1)) mq_165 ci_165 (List.mem_append_right _ (List.mem_append_right _ (List.mem_append_left _ (show _ ∈ my_165_2 from List.mem_of_getElem? (i := 46) rfl))))
theorem cd_165_377 : mt_cd 165 377 = some (.getfield 80) := mt_cd_of (q := (377, .getfield 80, 3)) mq_165 ci_165 (List.mem_append_right _ (List.mem_append_right _ (List.mem_append_left _ (show _ ∈ my_165_2 from List.mem_of_getElem? (i := 47) rfl))))
theorem cd_165_380 : mt_cd 165 380 = some (.iload_n 2) := mt_cd_of (q := (380, .iload_n 2, 1)) mq_165 ci_165 (List.mem_append_right _ (List.mem_append_right _ (List.mem_append_left _ (show _ ∈ my_165_2 from List.mem_of_getElem? (i := 48) rfl))))
theorem cd_165_381 : mt_cd 165 381 = some (.aload_n 0) := mt_cd_of (q := (381, .aload_n 0, 1)) mq_165 ci_165 (List.mem_append_right _ (List.mem_append_right _ (List.mem_append_left _ (show _ ∈ my_165_2 from List.mem_of_getElem? (i := 49) rfl))))
theorem cd_165_382 : mt_cd 165 382 = some (.invokevirtual 416) := mt_cd_of (q := (382, .invokevirtual 416, 3)) mq_165 ci_165 (List.mem_append_right _ (List.mem_append_right _ (List.mem_append_left _ (show _ ∈ my_165_2 from List.mem_of_getElem? (i := 50) rfl))))
theorem cd_165_385 : mt_cd 165 385 = some (.dup_x2) := mt_cd_of (q := (385, .dup_x2, 1)) mq_165 ci_165 (List.mem_append_right _ (List.mem_append_right _ (List.mem_append_left _ (show _ ∈ my_165_2 from List.mem_of_getElem? (i := 51) rfl))))
theorem cd_165_386 : mt_cd 165 386 = some (.iastore) := mt_cd_of (q := (386, .iastore, 1)) mq_165 ci_165 (List.mem_append_right _ (List.mem_append_right _ (List.mem_append_left _ (show _ ∈ my_165_2 from List.mem_of_getElem? (i := 52) rfl))))
theorem cd_165_387 : mt_cd 165 387 = some (.ifCond .lt 7) := mt_cd_of (q := (387, .ifCond .lt 7, 3)) mq_165 ci_165 (List.mem_append_right _ (List.mem_append_right _ (List.mem_append_left _ (show _ ∈ my_165_2 from List.mem_of_getElem? (i := 53) rfl))))
theorem cd_165_390 : mt_cd 165 390 = some (.iconst 1) := mt_cd_of (q := (390, .iconst 1, 1)) mq_165 ci_165 (List.mem_append_right _ (List.mem_append_right _ (List.mem_append_left _ (show _ ∈ my_165_2 from List.mem_of_getElem? (i := 54) rfl))))
theorem cd_165_391 : mt_cd 165 391 = some (.goto 4) := mt_cd_of (q := (391, .goto 4, 3)) mq_165 ci_165 (List.mem_append_right _ (List.mem_append_right _ (List.mem_append_left _ (show _ ∈ my_165_2 from List.mem_of_getElem? (i := 55) rfl))))
theorem cd_165_394 : mt_cd 165 394 = some (.iconst 0) := mt_cd_of (q := (394, .iconst 0, 1)) mq_165 ci_165 (List.mem_append_right _ (List.mem_append_right _ (List.mem_append_left _ (show _ ∈ my_165_2 from List.mem_of_getElem? (i := 56) rfl))))
theorem cd_165_395 : mt_cd 165 395 = some (.istore_n 3) := mt_cd_of (q := (395, .istore_n 3, 1)) mq_165 ci_165 (List.mem_append_right _ (List.mem_append_right _ (List.mem_append_left _ (show _ ∈ my_165_2 from List.mem_of_getElem? (i := 57) rfl))))
theorem cd_165_396 : mt_cd 165 396 = some (.goto 40) := mt_cd_of (q := (396, .goto 40, 3)) mq_165 ci_165 (List.mem_append_right _ (List.mem_append_right _ (List.mem_append_left _ (show _ ∈ my_165_2 from List.mem_of_getElem? (i := 58) rfl))))
theorem cd_165_399 : mt_cd 165 399 = some (.goto 37) := mt_cd_of (q := (399, .goto 37, 3)) mq_165 ci_165 (List.mem_append_right _ (List.mem_append_right _ (List.mem_append_left _ (show _ ∈ my_165_2 from List.mem_of_getElem? (i := 59) rfl))))
theorem cd_165_402 : mt_cd 165 402 = some (.aload_n 0) := mt_cd_of (q := (402, .aload_n 0, 1)) mq_165 ci_165 (List.mem_append_right _ (List.mem_append_right _ (List.mem_append_right _ ((show _ ∈ my_165_3 from List.mem_of_getElem? (i := 0) rfl)))))
theorem cd_165_403 : mt_cd 165 403 = some (.getfield 80) := mt_cd_of (q := (403, .getfield 80, 3)) mq_165 ci_165 (List.mem_append_right _ (List.mem_append_right _ (List.mem_append_right _ ((show _ ∈ my_165_3 from List.mem_of_getElem? (i := 1) rfl)))))
theorem cd_165_406 : mt_cd 165 406 = some (.iload_n 2) := mt_cd_of (q := (406, .iload_n 2, 1)) mq_165 ci_165 (List.mem_append_right _ (List.mem_append_right _ (List.mem_append_right _ ((show _ ∈ my_165_3 from List.mem_of_getElem? (i := 2) rfl)))))
theorem cd_165_407 : mt_cd 165 407 = some (.aload_n 0) := mt_cd_of (q := (407, .aload_n 0, 1)) mq_165 ci_165 (List.mem_append_right _ (List.mem_append_right _ (List.mem_append_right _ ((show _ ∈ my_165_3 from List.mem_of_getElem? (i := 3) rfl)))))
theorem cd_165_408 : mt_cd 165 408 = some (.invokevirtual 399) := mt_cd_of (q := (408, .invokevirtual 399, 3)) mq_165 ci_165 (List.mem_append_right _ (List.mem_append_right _ (List.mem_append_right _ ((show _ ∈ my_165_3 from List.mem_of_getElem? (i := 4) rfl)))))
theorem cd_165_411 : mt_cd 165 411 = some (.dup_x2) := mt_cd_of (q := (411, .dup_x2, 1)) mq_165 ci_165 (List.mem_append_right _ (List.mem_append_right _ (List.mem_append_right _ ((show _ ∈ my_165_3 from List.mem_of_getElem? (i := 5) rfl)))))
theorem cd_165_412 : mt_cd 165 412 = some (.iastore) := mt_cd_of (q := (412, .iastore, 1)) mq_165 ci_165 (List.mem_append_right _ (List.mem_append_right _ (List.mem_append_right _ ((show _ ∈ my_165_3 from List.mem_of_getElem? (i := 6) rfl)))))
theorem cd_165_413 : mt_cd 165 413 = some (.ifCond .lt 21) := mt_cd_of (q := (413, .ifCond .lt 21, 3)) mq_165 ci_165 (List.mem_append_right _ (List.mem_append_right _ (List.mem_append_right _ ((show _ ∈ my_165_3 from List.mem_of_getElem? (i := 7) rfl)))))
theorem cd_165_416 : mt_cd 165 416 = some (.aload_n 0) := mt_cd_of (q := (416, .aload_n 0, 1)) mq_165 ci_165 (List.mem_append_right _ (List.mem_append_right _ (List.mem_append_right _ ((show _ ∈ my_165_3 from List.mem_of_getElem? (i := 8) rfl)))))
theorem cd_165_417 : mt_cd 165 417 = some (.getfield 83) := mt_cd_of (q := (417, .getfield 83, 3)) mq_165 ci_165 (List.mem_append_right _ (List.mem_append_right _ (List.mem_append_right _ ((show _ ∈ my_165_3 from List.mem_of_getElem? (i := 9) rfl)))))
theorem cd_165_420 : mt_cd 165 420 = some (.iload_n 2) := mt_cd_of (q := (420, .iload_n 2, 1)) mq_165 ci_165 (List.mem_append_right _ (List.mem_append_right _ (List.mem_append_right _ ((show _ ∈ my_165_3 from List.mem_of_getElem? (i := 10) rfl)))))
theorem cd_165_421 : mt_cd 165 421 = some (.aload_n 0) := mt_cd_of (q := (421, .aload_n 0, 1)) mq_165 ci_165 (List.mem_append_right _ (List.mem_append_right _ (List.mem_append_right _ ((show _ ∈ my_165_3 from List.mem_of_getElem? (i := 11) rfl)))))
theorem cd_165_422 : mt_cd 165 422 = some (.invokevirtual 399) := mt_cd_of (q := (422, .invokevirtual 399, 3)) mq_165 ci_165 (List.mem_append_right _ (List.mem_append_right _ (List.mem_append_right _ ((show _ ∈ my_165_3 from List.mem_of_getElem? (i := 12) rfl)))))
theorem cd_165_425 : mt_cd 165 425 = some (.dup_x2) := mt_cd_of (q := (425, .dup_x2, 1)) mq_165 ci_165 (List.mem_append_right _ (List.mem_append_right _ (List.mem_append_right _ ((show _ ∈ my_165_3 from List.mem_of_getElem? (i := 13) rfl)))))
theorem cd_165_426 : mt_cd 165 426 = some (.iastore) := mt_cd_of (q := (426, .iastore, 1)) mq_165 ci_165 (List.mem_append_right _ (List.mem_append_right _ (List.mem_append_right _ ((show _ ∈ my_165_3 from List.mem_of_getElem? (i := 14) rfl)))))
theorem cd_165_427 : mt_cd 165 427 = some (.ifCond .lt 7) := mt_cd_of (q := (427, .ifCond .lt 7, 3)) mq_165 ci_165 (List.mem_append_right _ (List.mem_append_right _ (List.mem_append_right _ ((show _ ∈ my_165_3 from List.mem_of_getElem? (i := 15) rfl)))))
theorem cd_165_430 : mt_cd 165 430 = some (.iconst 1) := mt_cd_of (q := (430, .iconst 1, 1)) mq_165 ci_165 (List.mem_append_right _ (List.mem_append_right _ (List.mem_append_right _ ((show _ ∈ my_165_3 from List.mem_of_getElem? (i := 16) rfl)))))
theorem cd_165_431 : mt_cd 165 431 = some (.goto 4) := mt_cd_of (q := (431, .goto 4, 3)) mq_165 ci_165 (List.mem_append_right _ (List.mem_append_right _ (List.mem_append_right _ ((show _ ∈ my_165_3 from List.mem_of_getElem? (i := 17) rfl)))))
theorem cd_165_434 : mt_cd 165 434 = some (.iconst 0) := mt_cd_of (q := (434, .iconst 0, 1)) mq_165 ci_165 (List.mem_append_right _ (List.mem_append_right _ (List.mem_append_right _ ((show _ ∈ my_165_3 from List.mem_of_getElem? (i := 18) rfl)))))
theorem cd_165_435 : mt_cd 165 435 = some (.istore_n 3) := mt_cd_of (q := (435, .istore_n 3, 1)) mq_165 ci_165 (List.mem_append_right _ (List.mem_append_right _ (List.mem_append_right _ ((show _ ∈ my_165_3 from List.mem_of_getElem? (i := 19) rfl)))))
theorem cd_165_436 : mt_cd 165 436 = some (.aload_n 0) := mt_cd_of (q := (436, .aload_n 0, 1)) mq_165 ci_165 (List.mem_append_right _ (List.mem_append_right _ (List.mem_append_right _ ((show _ ∈ my_165_3 from List.mem_of_getElem? (i := 20) rfl)))))
theorem cd_165_437 : mt_cd 165 437 = some (.dup) := mt_cd_of (q := (437, .dup, 1)) mq_165 ci_165 (List.mem_append_right _ (List.mem_append_right _ (List.mem_append_right _ ((show _ ∈ my_165_3 from List.mem_of_getElem? (i := 21) rfl)))))
theorem cd_165_438 : mt_cd 165 438 = some (.getfield 337) := mt_cd_of (q := (438, .getfield 337, 3)) mq_165 ci_165 (List.mem_append_right _ (List.mem_append_right _ (List.mem_append_right _ ((show _ ∈ my_165_3 from List.mem_of_getElem? (i := 22) rfl)))))
theorem cd_165_441 : mt_cd 165 441 = some (.iconst 1) := mt_cd_of (q := (441, .iconst 1, 1)) mq_165 ci_165 (List.mem_append_right _ (List.mem_append_right _ (List.mem_append_right _ ((show _ ∈ my_165_3 from List.mem_of_getElem? (i := 23) rfl)))))
theorem cd_165_442 : mt_cd 165 442 = some (.isub) := mt_cd_of (q := (442, .isub, 1)) mq_165 ci_165 (List.mem_append_right _ (List.mem_append_right _ (List.mem_append_right _ ((show _ ∈ my_165_3 from List.mem_of_getElem? (i := 24) rfl)))))
theorem cd_165_443 : mt_cd 165 443 = some (.putfield 337) := mt_cd_of (q := (443, .putfield 337, 3)) mq_165 ci_165 (List.mem_append_right _ (List.mem_append_right _ (List.mem_append_right _ ((show _ ∈ my_165_3 from List.mem_of_getElem? (i := 25) rfl)))))
theorem cd_165_446 : mt_cd 165 446 = some (.iload_n 3) := mt_cd_of (q := (446, .iload_n 3, 1)) mq_165 ci_165 (List.mem_append_right _ (List.mem_append_right _ (List.mem_append_right _ ((show _ ∈ my_165_3 from List.mem_of_getElem? (i := 26) rfl)))))
theorem cd_165_447 : mt_cd 165 447 = some (.ifCond .eq 7) := mt_cd_of (q := (447, .ifCond .eq 7, 3)) mq_165 ci_165 (List.mem_append_right _ (List.mem_append_right _ (List.mem_append_right _ ((show _ ∈ my_165_3 from List.mem_of_getElem? (i := 27) rfl)))))
theorem cd_165_450 : mt_cd 165 450 = some (.iload_n 2) := mt_cd_of (q := (450, .iload_n 2, 1)) mq_165 ci_165 (List.mem_append_right _ (List.mem_append_right _ (List.mem_append_right _ ((show _ ∈ my_165_3 from List.mem_of_getElem? (i := 28) rfl)))))
theorem cd_165_451 : mt_cd 165 451 = some (.goto 4) := mt_cd_of (q := (451, .goto 4, 3)) mq_165 ci_165 (List.mem_append_right _ (List.mem_append_right _ (List.mem_append_right _ ((show _ ∈ my_165_3 from List.mem_of_getElem? (i := 29) rfl)))))
theorem cd_165_454 : mt_cd 165 454 = some (.iconst (-1)) := mt_cd_of (q := (454, .iconst (-1), 1)) mq_165 ci_165 (List.mem_append_right _ (List.mem_append_right _ (List.mem_append_right _ ((show _ ∈ my_165_3 from List.mem_of_getElem? (i := 30) rfl)))))
theorem cd_165_455 : mt_cd 165 455 = some (.ireturn) := mt_cd_of (q := (455, .ireturn, 1)) mq_165 ci_165 (List.mem_append_right _ (List.mem_append_right _ (List.mem_append_right _ ((show _ ∈ my_165_3 from List.mem_of_getElem? (i := 31) rfl)))))
theorem b_165_0 {d : Nat} {Q : (Option Value ⊕ Nat) → mi_H → Prop} (n sl : Nat) (f : Nat → mi_C) {l1 : Nat} {o2 : Option Value} {o3 : Option Value} {o4 : Option Value} {fs5 : List Value} (h6 : f l1 = .inr (12, fs5)) (h7 : l1 < n) (h8 : mi_W d 151 0 (mi_en 2 [.ref l1, .ref (mi_SC + 1 + 2 * 40)]) [] (n, sl, f) (mi_Kc d 165 4 [some (.ref l1), o2, o3, o4] [] Q)) : mi_W (d + 1) 165 0 [some (.ref l1), o2, o3, o4] [] (n, sl, f) Q := by
  refine w_aload_n cd_165_0 rfl ?_
  refine w_ldc_w (n := 40) cd_165_1 (by decide +kernel) ?_
  exact w_invokevirtual cd_165_4 (show mt_m 12 375 = some (151, 0) by decide +kernel) (rest := []) rfl (as := [.ref l1, .ref (mi_SC + 1 + 2 * 40)]) rfl h6 (Or.inl h7) ⟨Nat.le_of_ble_eq_true rfl, Nat.le_of_ble_eq_true rfl, Nat.le_of_ble_eq_true rfl⟩ h8
theorem b_165_7 {d : Nat} {Q : (Option Value ⊕ Nat) → mi_H → Prop} (n sl : Nat) (f : Nat → mi_C) {l1 : Nat} {o2 : Option Value} {o3 : Option Value} {o4 : Option Value} {s5 : Int32} (h6 : s5 = (0 : Int32) → mi_W d 165 65 [some (.ref l1), o2, o3, o4] [] (n, sl, f) Q) (h7 : ¬ (s5 = (0 : Int32)) → mi_W d 165 10 [some (.ref l1), o2, o3, o4] [] (n, sl, f) Q) : mi_W d 165 7 [some (.ref l1), o2, o3, o4] [.int s5] (n, sl, f) Q := by
  exact w_ifeq cd_165_7 (by decide) h6 h7
theorem b_165_10 {d : Nat} {Q : (Option Value ⊕ Nat) → mi_H → Prop} (n sl : Nat) (f : Nat → mi_C) {l1 : Nat} {o2 : Option Value} {o3 : Option Value} {o4 : Option Value} {fs5 : List Value} (h6 : f l1 = .inr (12, fs5)) (h7 : l1 < n) (h8 : mi_W d 152 0 (mi_en 1 [.ref l1]) [] (n, sl, f) (mi_Kc d 165 11 [some (.ref l1), o2, o3, o4] [] Q)) : mi_W (d + 1) 165 10 [some (.ref l1), o2, o3, o4] [] (n, sl, f) Q := by
  refine w_aload_n cd_165_10 rfl ?_
  exact w_invokevirtual cd_165_11 (show mt_m 12 378 = some (152, 0) by decide +kernel) (rest := []) rfl (as := [.ref l1]) rfl h6 (Or.inl h7) ⟨Nat.le_of_ble_eq_true rfl, Nat.le_of_ble_eq_true rfl, Nat.le_of_ble_eq_true rfl⟩ h8
theorem b_165_14 {d : Nat} {Q : (Option Value ⊕ Nat) → mi_H → Prop} (n sl : Nat) (f : Nat → mi_C) {l1 : Nat} {o2 : Option Value} {o3 : Option Value} {o4 : Option Value} {s5 : Int32} (h6 : s5 = (0 : Int32) → mi_W d 165 24 [some (.ref l1), o2, o3, o4] [] (n, sl, f) Q) (h7 : ¬ (s5 = (0 : Int32)) → mi_W d 165 17 [some (.ref l1), o2, o3, o4] [] (n, sl, f) Q) : mi_W d 165 14 [some (.ref l1), o2, o3, o4] [.int s5] (n, sl, f) Q := by
  exact w_ifeq cd_165_14 (by decide) h6 h7
theorem b_165_17 {d : Nat} {Q : (Option Value ⊕ Nat) → mi_H → Prop} (n sl : Nat) (f : Nat → mi_C) {l1 : Nat} {o2 : Option Value} {o3 : Option Value} {o4 : Option Value} {fs5 : List Value} (h6 : f l1 = .inr (12, fs5)) (h7 : l1 < n) (h8 : mi_W d 143 0 (mi_en 4 [.ref l1]) [] (n, sl, f) (mi_Kc d 165 18 [some (.ref l1), o2, o3, o4] [] Q)) : mi_W (d + 1) 165 17 [some (.ref l1), o2, o3, o4] [] (n, sl, f) Q := by
  refine w_aload_n cd_165_17 rfl ?_
  exact w_invokevirtual cd_165_18 (show mt_m 12 333 = some (143, 0) by decide +kernel) (rest := []) rfl (as := [.ref l1]) rfl h6 (Or.inl h7) ⟨Nat.le_of_ble_eq_true rfl, Nat.le_of_ble_eq_true rfl, Nat.le_of_ble_eq_true rfl⟩ h8
theorem b_165_21 {d : Nat} {Q : (Option Value ⊕ Nat) → mi_H → Prop} (n sl : Nat) (f : Nat → mi_C) {l1 : Nat} {o2 : Option Value} {o3 : Option Value} {o4 : Option Value} {s5 : Int32} (h6 : ¬ s5 = (0 : Int32) → mi_W d 165 26 [some (.ref l1), o2, o3, o4] [] (n, sl, f) Q) (h7 : ¬ (¬ s5 = (0 : Int32)) → mi_W d 165 24 [some (.ref l1), o2, o3, o4] [] (n, sl, f) Q) : mi_W d 165 21 [some (.ref l1), o2, o3, o4] [.int s5] (n, sl, f) Q := by
  exact w_ifne cd_165_21 (by decide) h6 h7
theorem b_165_24 {d : Nat} {Q : (Option Value ⊕ Nat) → mi_H → Prop} (n sl : Nat) (f : Nat → mi_C) {l1 : Nat} {o2 : Option Value} {o3 : Option Value} {o4 : Option Value} (h5 : Q (.inl (some (.int (-1)))) (n, sl, f)) : mi_W d 165 24 [some (.ref l1), o2, o3, o4] [] (n, sl, f) Q := by
  refine w_iconst (v := (-1)) cd_165_24 (by decide) ?_
  exact w_ireturn_i cd_165_25 (by decide +kernel) h5
theorem b_165_26 {d : Nat} {Q : (Option Value ⊕ Nat) → mi_H → Prop} (n sl : Nat) (f : Nat → mi_C) {l1 : Nat} {o2 : Option Value} {o3 : Option Value} {o4 : Option Value} {fs5 : List Value} (h6 : f l1 = .inr (12, fs5)) (h7 : l1 < n) (h8 : mi_W d 165 0 (mi_en 4 [.ref l1]) [] (n, sl, f) (mi_Kc d 165 27 [some (.ref l1), o2, o3, o4] [] Q)) : mi_W (d + 1) 165 26 [some (.ref l1), o2, o3, o4] [] (n, sl, f) Q := by
  refine w_aload_n cd_165_26 rfl ?_
  exact w_invokevirtual cd_165_27 (show mt_m 12 401 = some (165, 0) by decide +kernel) (rest := []) rfl (as := [.ref l1]) rfl h6 (Or.inl h7) ⟨Nat.le_of_ble_eq_true rfl, Nat.le_of_ble_eq_true rfl, Nat.le_of_ble_eq_true rfl⟩ h8
theorem b_165_30 {d : Nat} {Q : (Option Value ⊕ Nat) → mi_H → Prop} (n sl : Nat) (f : Nat → mi_C) {l1 : Nat} {o2 : Option Value} {o3 : Option Value} {o4 : Option Value} {s5 : Int32} {fs6 : List Value} {x9 : Int32} {fs11 : List Value} (h7 : f l1 = .inr (12, fs6)) (h8 : l1 < n) (h10 : fs6[22]? = some (.int x9)) (h12 : f l1 = .inr (12, fs11)) (h13 : l1 < n) (h14 : 22 < fs11.length) (h15 : s5 < (0 : Int32) → mi_W d 165 63 [some (.ref l1), some (.int s5), o3, o4] [] (n, sl, (va_up f l1 (.inr (12, fs11.set 22 (.int (x9 - 1)))))) Q) (h16 : ¬ (s5 < (0 : Int32)) → mi_W d 165 45 [some (.ref l1), some (.int s5), o3, o4] [] (n, sl, (va_up f l1 (.inr (12, fs11.set 22 (.int (x9 - 1)))))) Q) : mi_W d 165 30 [some (.ref l1), o2, o3, o4] [.int s5] (n, sl, f) Q := by
  refine w_istore_n (ls' := [some (.ref l1), some (.int s5), o3, o4]) cd_165_30 (Nat.le_of_ble_eq_true rfl) rfl ?_
  refine w_aload_n cd_165_31 rfl ?_
  refine w_dup_r cd_165_32 ?_
  refine w_getfield cd_165_33 (show mt_f 12 337 = some (12, 22) by decide +kernel) h7 h8 h10 ?_
  refine w_iconst (v := 1) cd_165_36 (by decide) ?_
  refine w_isub cd_165_37 ?_
  refine w_putfield (w := .int (x9 - 1)) cd_165_38 (show mt_f 12 337 = some (12, 22) by decide +kernel) h12 h13 ⟨h14, rfl, Or.inl (by decide)⟩ ?_
  refine w_iload_n cd_165_41 rfl ?_
  exact w_iflt cd_165_42 (by decide) h15 h16
theorem b_165_45 {d : Nat} {Q : (Option Value ⊕ Nat) → mi_H → Prop} (n sl : Nat) (f : Nat → mi_C) {l1 : Nat} {l2 : Int32} {o3 : Option Value} {o4 : Option Value} {fs5 : List Value} (h6 : f l1 = .inr (12, fs5)) (h7 : l1 < n) (h8 : mi_W d 151 0 (mi_en 2 [.ref l1, .ref (mi_SC + 1 + 2 * 41)]) [] (n, sl, f) (mi_Kc d 165 50 [some (.ref l1), some (.int l2), o3, o4] [.ref l1] Q)) : mi_W (d + 1) 165 45 [some (.ref l1), some (.int l2), o3, o4] [] (n, sl, f) Q := by
  refine w_aload_n cd_165_45 rfl ?_
  refine w_aload_n cd_165_46 rfl ?_
  refine w_ldc_w (n := 41) cd_165_47 (by decide +kernel) ?_
  exact w_invokevirtual cd_165_50 (show mt_m 12 375 = some (151, 0) by decide +kernel) (rest := [.ref l1]) rfl (as := [.ref l1, .ref (mi_SC + 1 + 2 * 41)]) rfl h6 (Or.inl h7) ⟨Nat.le_of_ble_eq_true rfl, Nat.le_of_ble_eq_true rfl, Nat.le_of_ble_eq_true rfl⟩ h8
theorem b_165_53 {d : Nat} {Q : (Option Value ⊕ Nat) → mi_H → Prop} (n sl : Nat) (f : Nat → mi_C) {l1 : Nat} {l2 : Int32} {o3 : Option Value} {o4 : Option Value} {s5 : Int32} {s6 : Nat} {fs7 : List Value} (h8 : f s6 = .inr (12, fs7)) (h9 : s6 < n) (h10 : mi_W d 153 0 (mi_en 2 [.ref s6, .int s5]) [] (n, sl, f) (mi_Kc d 165 53 [some (.ref l1), some (.int l2), o3, o4] [] Q)) : mi_W (d + 1) 165 53 [some (.ref l1), some (.int l2), o3, o4] [.int s5, .ref s6] (n, sl, f) Q := by
  exact w_invokevirtual cd_165_53 (show mt_m 12 383 = some (153, 0) by decide +kernel) (rest := []) rfl (as := [.ref s6, .int s5]) rfl h8 (Or.inl h9) ⟨Nat.le_of_ble_eq_true rfl, Nat.le_of_ble_eq_true rfl, Nat.le_of_ble_eq_true rfl⟩ h10
theorem b_165_56 {d : Nat} {Q : (Option Value ⊕ Nat) → mi_H → Prop} (n sl : Nat) (f : Nat → mi_C) {l1 : Nat} {l2 : Int32} {o3 : Option Value} {o4 : Option Value} {s5 : Int32} (h6 : s5 = (0 : Int32) → mi_W d 165 63 [some (.ref l1), some (.int l2), o3, o4] [] (n, sl, f) Q) (h7 : ¬ (s5 = (0 : Int32)) → mi_W d 165 59 [some (.ref l1), some (.int l2), o3, o4] [] (n, sl, f) Q) : mi_W d 165 56 [some (.ref l1), some (.int l2), o3, o4] [.int s5] (n, sl, f) Q := by
  exact w_ifeq cd_165_56 (by decide) h6 h7
theorem b_165_59 {d : Nat} {Q : (Option Value ⊕ Nat) → mi_H → Prop} (n sl : Nat) (f : Nat → mi_C) {l1 : Nat} {l2 : Int32} {o3 : Option Value} {o4 : Option Value} (h5 : mi_W d 165 64 [some (.ref l1), some (.int l2), o3, o4] [.int l2] (n, sl, f) Q) : mi_W d 165 59 [some (.ref l1), some (.int l2), o3, o4] [] (n, sl, f) Q := by
  refine w_iload_n cd_165_59 rfl ?_
  exact w_goto cd_165_60 (by decide) h5
theorem b_165_63 {d : Nat} {Q : (Option Value ⊕ Nat) → mi_H → Prop} (n sl : Nat) (f : Nat → mi_C) {l1 : Nat} {l2 : Int32} {o3 : Option Value} {o4 : Option Value} (h5 : mi_W d 165 64 [some (.ref l1), some (.int l2), o3, o4] [.int (-1)] (n, sl, f) Q) : mi_W d 165 63 [some (.ref l1), some (.int l2), o3, o4] [] (n, sl, f) Q := by
  refine w_iconst (v := (-1)) cd_165_63 (by decide) ?_
  exact h5
theorem b_165_64 {d : Nat} {Q : (Option Value ⊕ Nat) → mi_H → Prop} (n sl : Nat) (f : Nat → mi_C) {l1 : Nat} {l2 : Int32} {o3 : Option Value} {o4 : Option Value} {s5 : Int32} (h6 : Q (.inl (some (.int s5))) (n, sl, f)) : mi_W d 165 64 [some (.ref l1), some (.int l2), o3, o4] [.int s5] (n, sl, f) Q := by
  exact w_ireturn_i cd_165_64 (by decide +kernel) h6
theorem b_165_65 {d : Nat} {Q : (Option Value ⊕ Nat) → mi_H → Prop} (n sl : Nat) (f : Nat → mi_C) {l1 : Nat} {o2 : Option Value} {o3 : Option Value} {o4 : Option Value} {fs5 : List Value} (h6 : f l1 = .inr (12, fs5)) (h7 : l1 < n) (h8 : mi_W d 154 0 (mi_en 2 [.ref l1, .ref (mi_SC + 1 + 2 * 34)]) [] (n, sl, f) (mi_Kc d 165 68 [some (.ref l1), o2, o3, o4] [] Q)) : mi_W (d + 1) 165 65 [some (.ref l1), o2, o3, o4] [] (n, sl, f) Q := by
  refine w_aload_n cd_165_65 rfl ?_
  refine w_ldc (n := 34) cd_165_66 (by decide +kernel) ?_
  exact w_invokevirtual cd_165_68 (show mt_m 12 387 = some (154, 0) by decide +kernel) (rest := []) rfl (as := [.ref l1, .ref (mi_SC + 1 + 2 * 34)]) rfl h6 (Or.inl h7) ⟨Nat.le_of_ble_eq_true rfl, Nat.le_of_ble_eq_true rfl, Nat.le_of_ble_eq_true rfl⟩ h8
theorem b_165_71 {d : Nat} {Q : (Option Value ⊕ Nat) → mi_H → Prop} (n sl : Nat) (f : Nat → mi_C) {l1 : Nat} {o2 : Option Value} {o3 : Option Value} {o4 : Option Value} {s5 : Int32} (h6 : s5 = (0 : Int32) → mi_W d 165 79 [some (.ref l1), o2, o3, o4] [] (n, sl, f) Q) (h7 : ¬ (s5 = (0 : Int32)) → mi_W d 165 74 [some (.ref l1), o2, o3, o4] [] (n, sl, f) Q) : mi_W d 165 71 [some (.ref l1), o2, o3, o4] [.int s5] (n, sl, f) Q := by
  exact w_ifeq cd_165_71 (by decide) h6 h7
theorem b_165_74 {d : Nat} {Q : (Option Value ⊕ Nat) → mi_H → Prop} (n sl : Nat) (f : Nat → mi_C) {l1 : Nat} {o2 : Option Value} {o3 : Option Value} {o4 : Option Value} (h5 : mi_W d 165 225 [some (.ref l1), o2, o3, o4] [.int 22] (n, sl, f) Q) : mi_W d 165 74 [some (.ref l1), o2, o3, o4] [] (n, sl, f) Q := by
  refine w_bipush (v := 22) cd_165_74 (by decide) ?_
  exact w_goto cd_165_76 (by decide) h5
theorem b_165_79 {d : Nat} {Q : (Option Value ⊕ Nat) → mi_H → Prop} (n sl : Nat) (f : Nat → mi_C) {l1 : Nat} {o2 : Option Value} {o3 : Option Value} {o4 : Option Value} {fs5 : List Value} (h6 : f l1 = .inr (12, fs5)) (h7 : l1 < n) (h8 : mi_W d 154 0 (mi_en 2 [.ref l1, .ref (mi_SC + 1 + 2 * 35)]) [] (n, sl, f) (mi_Kc d 165 82 [some (.ref l1), o2, o3, o4] [] Q)) : mi_W (d + 1) 165 79 [some (.ref l1), o2, o3, o4] [] (n, sl, f) Q := by
  refine w_aload_n cd_165_79 rfl ?_
  refine w_ldc (n := 35) cd_165_80 (by decide +kernel) ?_
  exact w_invokevirtual cd_165_82 (show mt_m 12 387 = some (154, 0) by decide +kernel) (rest := []) rfl (as := [.ref l1, .ref (mi_SC + 1 + 2 * 35)]) rfl h6 (Or.inl h7) ⟨Nat.le_of_ble_eq_true rfl, Nat.le_of_ble_eq_true rfl, Nat.le_of_ble_eq_true rfl⟩ h8
theorem b_165_85 {d : Nat} {Q : (Option Value ⊕ Nat) → mi_H → Prop} (n sl : Nat) (f : Nat → mi_C) {l1 : Nat} {o2 : Option Value} {o3 : Option Value} {o4 : Option Value} {s5 : Int32} (h6 : s5 = (0 : Int32) → mi_W d 165 93 [some (.ref l1), o2, o3, o4] [] (n, sl, f) Q) (h7 : ¬ (s5 = (0 : Int32)) → mi_W d 165 88 [some (.ref l1), o2, o3, o4] [] (n, sl, f) Q) : mi_W d 165 85 [some (.ref l1), o2, o3, o4] [.int s5] (n, sl, f) Q := by
  exact w_ifeq cd_165_85 (by decide) h6 h7
theorem b_165_88 {d : Nat} {Q : (Option Value ⊕ Nat) → mi_H → Prop} (n sl : Nat) (f : Nat → mi_C) {l1 : Nat} {o2 : Option Value} {o3 : Option Value} {o4 : Option Value} (h5 : mi_W d 165 225 [some (.ref l1), o2, o3, o4] [.int 23] (n, sl, f) Q) : mi_W d 165 88 [some (.ref l1), o2, o3, o4] [] (n, sl, f) Q := by
  refine w_bipush (v := 23) cd_165_88 (by decide) ?_
  exact w_goto cd_165_90 (by decide) h5
theorem b_165_93 {d : Nat} {Q : (Option Value ⊕ Nat) → mi_H → Prop} (n sl : Nat) (f : Nat → mi_C) {l1 : Nat} {o2 : Option Value} {o3 : Option Value} {o4 : Option Value} {fs5 : List Value} (h6 : f l1 = .inr (12, fs5)) (h7 : l1 < n) (h8 : mi_W d 154 0 (mi_en 2 [.ref l1, .ref (mi_SC + 1 + 2 * 36)]) [] (n, sl, f) (mi_Kc d 165 96 [some (.ref l1), o2, o3, o4] [] Q)) : mi_W (d + 1) 165 93 [some (.ref l1), o2, o3, o4] [] (n, sl, f) Q := by
  refine w_aload_n cd_165_93 rfl ?_
  refine w_ldc (n := 36) cd_165_94 (by decide +kernel) ?_
  exact w_invokevirtual cd_165_96 (show mt_m 12 387 = some (154, 0) by decide +kernel) (rest := []) rfl (as := [.ref l1, .ref (mi_SC + 1 + 2 * 36)]) rfl h6 (Or.inl h7) ⟨Nat.le_of_ble_eq_true rfl, Nat.le_of_ble_eq_true rfl, Nat.le_of_ble_eq_true rfl⟩ h8
theorem b_165_99 {d : Nat} {Q : (Option Value ⊕ Nat) → mi_H → Prop} (n sl : Nat) (f : Nat → mi_C) {l1 : Nat} {o2 : Option Value} {o3 : Option Value} {o4 : Option Value} {s5 : Int32} (h6 : s5 = (0 : Int32) → mi_W d 165 107 [some (.ref l1), o2, o3, o4] [] (n, sl, f) Q) (h7 : ¬ (s5 = (0 : Int32)) → mi_W d 165 102 [some (.ref l1), o2, o3, o4] [] (n, sl, f) Q) : mi_W d 165 99 [some (.ref l1), o2, o3, o4] [.int s5] (n, sl, f) Q := by
  exact w_ifeq cd_165_99 (by decide) h6 h7
theorem b_165_102 {d : Nat} {Q : (Option Value ⊕ Nat) → mi_H → Prop} (n sl : Nat) (f : Nat → mi_C) {l1 : Nat} {o2 : Option Value} {o3 : Option Value} {o4 : Option Value} (h5 : mi_W d 165 225 [some (.ref l1), o2, o3, o4] [.int 24] (n, sl, f) Q) : mi_W d 165 102 [some (.ref l1), o2, o3, o4] [] (n, sl, f) Q := by
  refine w_bipush (v := 24) cd_165_102 (by decide) ?_
  exact w_goto cd_165_104 (by decide) h5
theorem b_165_107 {d : Nat} {Q : (Option Value ⊕ Nat) → mi_H → Prop} (n sl : Nat) (f : Nat → mi_C) {l1 : Nat} {o2 : Option Value} {o3 : Option Value} {o4 : Option Value} {fs5 : List Value} (h6 : f l1 = .inr (12, fs5)) (h7 : l1 < n) (h8 : mi_W d 154 0 (mi_en 2 [.ref l1, .ref (mi_SC + 1 + 2 * 37)]) [] (n, sl, f) (mi_Kc d 165 110 [some (.ref l1), o2, o3, o4] [] Q)) : mi_W (d + 1) 165 107 [some (.ref l1), o2, o3, o4] [] (n, sl, f) Q := by
  refine w_aload_n cd_165_107 rfl ?_
  refine w_ldc (n := 37) cd_165_108 (by decide +kernel) ?_
  exact w_invokevirtual cd_165_110 (show mt_m 12 387 = some (154, 0) by decide +kernel) (rest := []) rfl (as := [.ref l1, .ref (mi_SC + 1 + 2 * 37)]) rfl h6 (Or.inl h7) ⟨Nat.le_of_ble_eq_true rfl, Nat.le_of_ble_eq_true rfl, Nat.le_of_ble_eq_true rfl⟩ h8
theorem b_165_113 {d : Nat} {Q : (Option Value ⊕ Nat) → mi_H → Prop} (n sl : Nat) (f : Nat → mi_C) {l1 : Nat} {o2 : Option Value} {o3 : Option Value} {o4 : Option Value} {s5 : Int32} (h6 : s5 = (0 : Int32) → mi_W d 165 121 [some (.ref l1), o2, o3, o4] [] (n, sl, f) Q) (h7 : ¬ (s5 = (0 : Int32)) → mi_W d 165 116 [some (.ref l1), o2, o3, o4] [] (n, sl, f) Q) : mi_W d 165 113 [some (.ref l1), o2, o3, o4] [.int s5] (n, sl, f) Q := by
  exact w_ifeq cd_165_113 (by decide) h6 h7
theorem b_165_116 {d : Nat} {Q : (Option Value ⊕ Nat) → mi_H → Prop} (n sl : Nat) (f : Nat → mi_C) {l1 : Nat} {o2 : Option Value} {o3 : Option Value} {o4 : Option Value} (h5 : mi_W d 165 225 [some (.ref l1), o2, o3, o4] [.int 25] (n, sl, f) Q) : mi_W d 165 116 [some (.ref l1), o2, o3, o4] [] (n, sl, f) Q := by
  refine w_bipush (v := 25) cd_165_116 (by decide) ?_
  exact w_goto cd_165_118 (by decide) h5
theorem b_165_121 {d : Nat} {Q : (Option Value ⊕ Nat) → mi_H → Prop} (n sl : Nat) (f : Nat → mi_C) {l1 : Nat} {o2 : Option Value} {o3 : Option Value} {o4 : Option Value} {fs5 : List Value} (h6 : f l1 = .inr (12, fs5)) (h7 : l1 < n) (h8 : mi_W d 154 0 (mi_en 2 [.ref l1, .ref (mi_SC + 1 + 2 * 38)]) [] (n, sl, f) (mi_Kc d 165 124 [some (.ref l1), o2, o3, o4] [] Q)) : mi_W (d + 1) 165 121 [some (.ref l1), o2, o3, o4] [] (n, sl, f) Q := by
  refine w_aload_n cd_165_121 rfl ?_
  refine w_ldc (n := 38) cd_165_122 (by decide +kernel) ?_
  exact w_invokevirtual cd_165_124 (show mt_m 12 387 = some (154, 0) by decide +kernel) (rest := []) rfl (as := [.ref l1, .ref (mi_SC + 1 + 2 * 38)]) rfl h6 (Or.inl h7) ⟨Nat.le_of_ble_eq_true rfl, Nat.le_of_ble_eq_true rfl, Nat.le_of_ble_eq_true rfl⟩ h8
theorem b_165_127 {d : Nat} {Q : (Option Value ⊕ Nat) → mi_H → Prop} (n sl : Nat) (f : Nat → mi_C) {l1 : Nat} {o2 : Option Value} {o3 : Option Value} {o4 : Option Value} {s5 : Int32} (h6 : s5 = (0 : Int32) → mi_W d 165 135 [some (.ref l1), o2, o3, o4] [] (n, sl, f) Q) (h7 : ¬ (s5 = (0 : Int32)) → mi_W d 165 130 [some (.ref l1), o2, o3, o4] [] (n, sl, f) Q) : mi_W d 165 127 [some (.ref l1), o2, o3, o4] [.int s5] (n, sl, f) Q := by
  exact w_ifeq cd_165_127 (by decide) h6 h7
theorem b_165_130 {d : Nat} {Q : (Option Value ⊕ Nat) → mi_H → Prop} (n sl : Nat) (f : Nat → mi_C) {l1 : Nat} {o2 : Option Value} {o3 : Option Value} {o4 : Option Value} (h5 : mi_W d 165 225 [some (.ref l1), o2, o3, o4] [.int 26] (n, sl, f) Q) : mi_W d 165 130 [some (.ref l1), o2, o3, o4] [] (n, sl, f) Q := by
  refine w_bipush (v := 26) cd_165_130 (by decide) ?_
  exact w_goto cd_165_132 (by decide) h5
theorem b_165_135 {d : Nat} {Q : (Option Value ⊕ Nat) → mi_H → Prop} (n sl : Nat) (f : Nat → mi_C) {l1 : Nat} {o2 : Option Value} {o3 : Option Value} {o4 : Option Value} {fs5 : List Value} (h6 : f l1 = .inr (12, fs5)) (h7 : l1 < n) (h8 : mi_W d 154 0 (mi_en 2 [.ref l1, .ref (mi_SC + 1 + 2 * 39)]) [] (n, sl, f) (mi_Kc d 165 138 [some (.ref l1), o2, o3, o4] [] Q)) : mi_W (d + 1) 165 135 [some (.ref l1), o2, o3, o4] [] (n, sl, f) Q := by
  refine w_aload_n cd_165_135 rfl ?_
  refine w_ldc (n := 39) cd_165_136 (by decide +kernel) ?_
  exact w_invokevirtual cd_165_138 (show mt_m 12 387 = some (154, 0) by decide +kernel) (rest := []) rfl (as := [.ref l1, .ref (mi_SC + 1 + 2 * 39)]) rfl h6 (Or.inl h7) ⟨Nat.le_of_ble_eq_true rfl, Nat.le_of_ble_eq_true rfl, Nat.le_of_ble_eq_true rfl⟩ h8
theorem b_165_141 {d : Nat} {Q : (Option Value ⊕ Nat) → mi_H → Prop} (n sl : Nat) (f : Nat → mi_C) {l1 : Nat} {o2 : Option Value} {o3 : Option Value} {o4 : Option Value} {s5 : Int32} (h6 : s5 = (0 : Int32) → mi_W d 165 149 [some (.ref l1), o2, o3, o4] [] (n, sl, f) Q) (h7 : ¬ (s5 = (0 : Int32)) → mi_W d 165 144 [some (.ref l1), o2, o3, o4] [] (n, sl, f) Q) : mi_W d 165 141 [some (.ref l1), o2, o3, o4] [.int s5] (n, sl, f) Q := by
  exact w_ifeq cd_165_141 (by decide) h6 h7
theorem b_165_144 {d : Nat} {Q : (Option Value ⊕ Nat) → mi_H → Prop} (n sl : Nat) (f : Nat → mi_C) {l1 : Nat} {o2 : Option Value} {o3 : Option Value} {o4 : Option Value} (h5 : mi_W d 165 225 [some (.ref l1), o2, o3, o4] [.int 27] (n, sl, f) Q) : mi_W d 165 144 [some (.ref l1), o2, o3, o4] [] (n, sl, f) Q := by
  refine w_bipush (v := 27) cd_165_144 (by decide) ?_
  exact w_goto cd_165_146 (by decide) h5
theorem b_165_149 {d : Nat} {Q : (Option Value ⊕ Nat) → mi_H → Prop} (n sl : Nat) (f : Nat → mi_C) {l1 : Nat} {o2 : Option Value} {o3 : Option Value} {o4 : Option Value} {fs5 : List Value} (h6 : f l1 = .inr (12, fs5)) (h7 : l1 < n) (h8 : mi_W d 151 0 (mi_en 2 [.ref l1, .ref (mi_SC + 1 + 2 * 46)]) [] (n, sl, f) (mi_Kc d 165 153 [some (.ref l1), o2, o3, o4] [] Q)) : mi_W (d + 1) 165 149 [some (.ref l1), o2, o3, o4] [] (n, sl, f) Q := by
  refine w_aload_n cd_165_149 rfl ?_
  refine w_ldc_w (n := 46) cd_165_150 (by decide +kernel) ?_
  exact w_invokevirtual cd_165_153 (show mt_m 12 375 = some (151, 0) by decide +kernel) (rest := []) rfl (as := [.ref l1, .ref (mi_SC + 1 + 2 * 46)]) rfl h6 (Or.inl h7) ⟨Nat.le_of_ble_eq_true rfl, Nat.le_of_ble_eq_true rfl, Nat.le_of_ble_eq_true rfl⟩ h8
theorem b_165_156 {d : Nat} {Q : (Option Value ⊕ Nat) → mi_H → Prop} (n sl : Nat) (f : Nat → mi_C) {l1 : Nat} {o2 : Option Value} {o3 : Option Value} {o4 : Option Value} {s5 : Int32} (h6 : s5 = (0 : Int32) → mi_W d 165 164 [some (.ref l1), o2, o3, o4] [] (n, sl, f) Q) (h7 : ¬ (s5 = (0 : Int32)) → mi_W d 165 159 [some (.ref l1), o2, o3, o4] [] (n, sl, f) Q) : mi_W d 165 156 [some (.ref l1), o2, o3, o4] [.int s5] (n, sl, f) Q := by
  exact w_ifeq cd_165_156 (by decide) h6 h7
theorem b_165_159 {d : Nat} {Q : (Option Value ⊕ Nat) → mi_H → Prop} (n sl : Nat) (f : Nat → mi_C) {l1 : Nat} {o2 : Option Value} {o3 : Option Value} {o4 : Option Value} (h5 : mi_W d 165 225 [some (.ref l1), o2, o3, o4] [.int 28] (n, sl, f) Q) : mi_W d 165 159 [some (.ref l1), o2, o3, o4] [] (n, sl, f) Q := by
  refine w_bipush (v := 28) cd_165_159 (by decide) ?_
  exact w_goto cd_165_161 (by decide) h5
theorem b_165_164 {d : Nat} {Q : (Option Value ⊕ Nat) → mi_H → Prop} (n sl : Nat) (f : Nat → mi_C) {l1 : Nat} {o2 : Option Value} {o3 : Option Value} {o4 : Option Value} {fs5 : List Value} (h6 : f l1 = .inr (12, fs5)) (h7 : l1 < n) (h8 : mi_W d 151 0 (mi_en 2 [.ref l1, .ref (mi_SC + 1 + 2 * 47)]) [] (n, sl, f) (mi_Kc d 165 168 [some (.ref l1), o2, o3, o4] [] Q)) : mi_W (d + 1) 165 164 [some (.ref l1), o2, o3, o4] [] (n, sl, f) Q := by
  refine w_aload_n cd_165_164 rfl ?_
  refine w_ldc_w (n := 47) cd_165_165 (by decide +kernel) ?_
  exact w_invokevirtual cd_165_168 (show mt_m 12 375 = some (151, 0) by decide +kernel) (rest := []) rfl (as := [.ref l1, .ref (mi_SC + 1 + 2 * 47)]) rfl h6 (Or.inl h7) ⟨Nat.le_of_ble_eq_true rfl, Nat.le_of_ble_eq_true rfl, Nat.le_of_ble_eq_true rfl⟩ h8
theorem b_165_171 {d : Nat} {Q : (Option Value ⊕ Nat) → mi_H → Prop} (n sl : Nat) (f : Nat → mi_C) {l1 : Nat} {o2 : Option Value} {o3 : Option Value} {o4 : Option Value} {s5 : Int32} (h6 : s5 = (0 : Int32) → mi_W d 165 179 [some (.ref l1), o2, o3, o4] [] (n, sl, f) Q) (h7 : ¬ (s5 = (0 : Int32)) → mi_W d 165 174 [some (.ref l1), o2, o3, o4] [] (n, sl, f) Q) : mi_W d 165 171 [some (.ref l1), o2, o3, o4] [.int s5] (n, sl, f) Q := by
  exact w_ifeq cd_165_171 (by decide) h6 h7
theorem b_165_174 {d : Nat} {Q : (Option Value ⊕ Nat) → mi_H → Prop} (n sl : Nat) (f : Nat → mi_C) {l1 : Nat} {o2 : Option Value} {o3 : Option Value} {o4 : Option Value} (h5 : mi_W d 165 225 [some (.ref l1), o2, o3, o4] [.int 29] (n, sl, f) Q) : mi_W d 165 174 [some (.ref l1), o2, o3, o4] [] (n, sl, f) Q := by
  refine w_bipush (v := 29) cd_165_174 (by decide) ?_
  exact w_goto cd_165_176 (by decide) h5
theorem b_165_179 {d : Nat} {Q : (Option Value ⊕ Nat) → mi_H → Prop} (n sl : Nat) (f : Nat → mi_C) {l1 : Nat} {o2 : Option Value} {o3 : Option Value} {o4 : Option Value} {fs5 : List Value} (h6 : f l1 = .inr (12, fs5)) (h7 : l1 < n) (h8 : mi_W d 151 0 (mi_en 2 [.ref l1, .ref (mi_SC + 1 + 2 * 48)]) [] (n, sl, f) (mi_Kc d 165 183 [some (.ref l1), o2, o3, o4] [] Q)) : mi_W (d + 1) 165 179 [some (.ref l1), o2, o3, o4] [] (n, sl, f) Q := by
  refine w_aload_n cd_165_179 rfl ?_
  refine w_ldc_w (n := 48) cd_165_180 (by decide +kernel) ?_
  exact w_invokevirtual cd_165_183 (show mt_m 12 375 = some (151, 0) by decide +kernel) (rest := []) rfl (as := [.ref l1, .ref (mi_SC + 1 + 2 * 48)]) rfl h6 (Or.inl h7) ⟨Nat.le_of_ble_eq_true rfl, Nat.le_of_ble_eq_true rfl, Nat.le_of_ble_eq_true rfl⟩ h8
theorem b_165_186 {d : Nat} {Q : (Option Value ⊕ Nat) → mi_H → Prop} (n sl : Nat) (f : Nat → mi_C) {l1 : Nat} {o2 : Option Value} {o3 : Option Value} {o4 : Option Value} {s5 : Int32} (h6 : s5 = (0 : Int32) → mi_W d 165 194 [some (.ref l1), o2, o3, o4] [] (n, sl, f) Q) (h7 : ¬ (s5 = (0 : Int32)) → mi_W d 165 189 [some (.ref l1), o2, o3, o4] [] (n, sl, f) Q) : mi_W d 165 186 [some (.ref l1), o2, o3, o4] [.int s5] (n, sl, f) Q := by
  exact w_ifeq cd_165_186 (by decide) h6 h7
theorem b_165_189 {d : Nat} {Q : (Option Value ⊕ Nat) → mi_H → Prop} (n sl : Nat) (f : Nat → mi_C) {l1 : Nat} {o2 : Option Value} {o3 : Option Value} {o4 : Option Value} (h5 : mi_W d 165 225 [some (.ref l1), o2, o3, o4] [.int 30] (n, sl, f) Q) : mi_W d 165 189 [some (.ref l1), o2, o3, o4] [] (n, sl, f) Q := by
  refine w_bipush (v := 30) cd_165_189 (by decide) ?_
  exact w_goto cd_165_191 (by decide) h5
theorem b_165_194 {d : Nat} {Q : (Option Value ⊕ Nat) → mi_H → Prop} (n sl : Nat) (f : Nat → mi_C) {l1 : Nat} {o2 : Option Value} {o3 : Option Value} {o4 : Option Value} {fs5 : List Value} (h6 : f l1 = .inr (12, fs5)) (h7 : l1 < n) (h8 : mi_W d 151 0 (mi_en 2 [.ref l1, .ref (mi_SC + 1 + 2 * 49)]) [] (n, sl, f) (mi_Kc d 165 198 [some (.ref l1), o2, o3, o4] [] Q)) : mi_W (d + 1) 165 194 [some (.ref l1), o2, o3, o4] [] (n, sl, f) Q := by
  refine w_aload_n cd_165_194 rfl ?_
  refine w_ldc_w (n := 49) cd_165_195 (by decide +kernel) ?_
  exact w_invokevirtual cd_165_198 (show mt_m 12 375 = some (151, 0) by decide +kernel) (rest := []) rfl (as := [.ref l1, .ref (mi_SC + 1 + 2 * 49)]) rfl h6 (Or.inl h7) ⟨Nat.le_of_ble_eq_true rfl, Nat.le_of_ble_eq_true rfl, Nat.le_of_ble_eq_true rfl⟩ h8
theorem b_165_201 {d : Nat} {Q : (Option Value ⊕ Nat) → mi_H → Prop} (n sl : Nat) (f : Nat → mi_C) {l1 : Nat} {o2 : Option Value} {o3 : Option Value} {o4 : Option Value} {s5 : Int32} (h6 : s5 = (0 : Int32) → mi_W d 165 209 [some (.ref l1), o2, o3, o4] [] (n, sl, f) Q) (h7 : ¬ (s5 = (0 : Int32)) → mi_W d 165 204 [some (.ref l1), o2, o3, o4] [] (n, sl, f) Q) : mi_W d 165 201 [some (.ref l1), o2, o3, o4] [.int s5] (n, sl, f) Q := by
  exact w_ifeq cd_165_201 (by decide) h6 h7
theorem b_165_204 {d : Nat} {Q : (Option Value ⊕ Nat) → mi_H → Prop} (n sl : Nat) (f : Nat → mi_C) {l1 : Nat} {o2 : Option Value} {o3 : Option Value} {o4 : Option Value} (h5 : mi_W d 165 225 [some (.ref l1), o2, o3, o4] [.int 31] (n, sl, f) Q) : mi_W d 165 204 [some (.ref l1), o2, o3, o4] [] (n, sl, f) Q := by
  refine w_bipush (v := 31) cd_165_204 (by decide) ?_
  exact w_goto cd_165_206 (by decide) h5
theorem b_165_209 {d : Nat} {Q : (Option Value ⊕ Nat) → mi_H → Prop} (n sl : Nat) (f : Nat → mi_C) {l1 : Nat} {o2 : Option Value} {o3 : Option Value} {o4 : Option Value} {fs5 : List Value} (h6 : f l1 = .inr (12, fs5)) (h7 : l1 < n) (h8 : mi_W d 151 0 (mi_en 2 [.ref l1, .ref (mi_SC + 1 + 2 * 50)]) [] (n, sl, f) (mi_Kc d 165 213 [some (.ref l1), o2, o3, o4] [] Q)) : mi_W (d + 1) 165 209 [some (.ref l1), o2, o3, o4] [] (n, sl, f) Q := by
  refine w_aload_n cd_165_209 rfl ?_
  refine w_ldc_w (n := 50) cd_165_210 (by decide +kernel) ?_
  exact w_invokevirtual cd_165_213 (show mt_m 12 375 = some (151, 0) by decide +kernel) (rest := []) rfl (as := [.ref l1, .ref (mi_SC + 1 + 2 * 50)]) rfl h6 (Or.inl h7) ⟨Nat.le_of_ble_eq_true rfl, Nat.le_of_ble_eq_true rfl, Nat.le_of_ble_eq_true rfl⟩ h8
theorem b_165_216 {d : Nat} {Q : (Option Value ⊕ Nat) → mi_H → Prop} (n sl : Nat) (f : Nat → mi_C) {l1 : Nat} {o2 : Option Value} {o3 : Option Value} {o4 : Option Value} {s5 : Int32} (h6 : s5 = (0 : Int32) → mi_W d 165 224 [some (.ref l1), o2, o3, o4] [] (n, sl, f) Q) (h7 : ¬ (s5 = (0 : Int32)) → mi_W d 165 219 [some (.ref l1), o2, o3, o4] [] (n, sl, f) Q) : mi_W d 165 216 [some (.ref l1), o2, o3, o4] [.int s5] (n, sl, f) Q := by
  exact w_ifeq cd_165_216 (by decide) h6 h7
theorem b_165_219 {d : Nat} {Q : (Option Value ⊕ Nat) → mi_H → Prop} (n sl : Nat) (f : Nat → mi_C) {l1 : Nat} {o2 : Option Value} {o3 : Option Value} {o4 : Option Value} (h5 : mi_W d 165 225 [some (.ref l1), o2, o3, o4] [.int 32] (n, sl, f) Q) : mi_W d 165 219 [some (.ref l1), o2, o3, o4] [] (n, sl, f) Q := by
  refine w_bipush (v := 32) cd_165_219 (by decide) ?_
  exact w_goto cd_165_221 (by decide) h5
theorem b_165_224 {d : Nat} {Q : (Option Value ⊕ Nat) → mi_H → Prop} (n sl : Nat) (f : Nat → mi_C) {l1 : Nat} {o2 : Option Value} {o3 : Option Value} {o4 : Option Value} (h5 : mi_W d 165 225 [some (.ref l1), o2, o3, o4] [.int (-1)] (n, sl, f) Q) : mi_W d 165 224 [some (.ref l1), o2, o3, o4] [] (n, sl, f) Q := by
  refine w_iconst (v := (-1)) cd_165_224 (by decide) ?_
  exact h5
theorem b_165_225 {d : Nat} {Q : (Option Value ⊕ Nat) → mi_H → Prop} (n sl : Nat) (f : Nat → mi_C) {l1 : Nat} {o2 : Option Value} {o3 : Option Value} {o4 : Option Value} {s5 : Int32} (h6 : (0 : Int32) ≤ s5 → mi_W d 165 241 [some (.ref l1), some (.int s5), o3, o4] [] (n, sl, f) Q) (h7 : ¬ ((0 : Int32) ≤ s5) → mi_W d 165 230 [some (.ref l1), some (.int s5), o3, o4] [] (n, sl, f) Q) : mi_W d 165 225 [some (.ref l1), o2, o3, o4] [.int s5] (n, sl, f) Q := by
  refine w_istore_n (ls' := [some (.ref l1), some (.int s5), o3, o4]) cd_165_225 (Nat.le_of_ble_eq_true rfl) rfl ?_
  refine w_iload_n cd_165_226 rfl ?_
  exact w_ifge cd_165_227 (by decide) h6 h7
theorem b_165_230 {d : Nat} {Q : (Option Value ⊕ Nat) → mi_H → Prop} (n sl : Nat) (f : Nat → mi_C) {l1 : Nat} {l2 : Int32} {o3 : Option Value} {o4 : Option Value} {fs5 : List Value} {x8 : Int32} {fs10 : List Value} (h6 : f l1 = .inr (12, fs5)) (h7 : l1 < n) (h9 : fs5[9]? = some (.int x8)) (h11 : f l1 = .inr (12, fs10)) (h12 : l1 < n) (h13 : mi_W d 141 0 (mi_en 2 [.ref l1, .int x8]) [] (n, sl, f) (mi_Kc d 165 235 [some (.ref l1), some (.int l2), o3, o4] [] Q)) : mi_W (d + 1) 165 230 [some (.ref l1), some (.int l2), o3, o4] [] (n, sl, f) Q := by
  refine w_aload_n cd_165_230 rfl ?_
  refine w_aload_n cd_165_231 rfl ?_
  refine w_getfield cd_165_232 (show mt_f 12 299 = some (12, 9) by decide +kernel) h6 h7 h9 ?_
  exact w_invokevirtual cd_165_235 (show mt_m 12 272 = some (141, 0) by decide +kernel) (rest := []) rfl (as := [.ref l1, .int x8]) rfl h11 (Or.inl h12) ⟨Nat.le_of_ble_eq_true rfl, Nat.le_of_ble_eq_true rfl, Nat.le_of_ble_eq_true rfl⟩ h13
theorem b_165_238 {d : Nat} {Q : (Option Value ⊕ Nat) → mi_H → Prop} (n sl : Nat) (f : Nat → mi_C) {l1 : Nat} {l2 : Int32} {o3 : Option Value} {o4 : Option Value} {s5 : Int32} (h6 : Q (.inl (some (.int (-1)))) (n, sl, f)) : mi_W d 165 238 [some (.ref l1), some (.int l2), o3, o4] [.int s5] (n, sl, f) Q := by
  refine w_pop_i cd_165_238 ?_
  refine w_iconst (v := (-1)) cd_165_239 (by decide) ?_
  exact w_ireturn_i cd_165_240 (by decide +kernel) h6
theorem b_165_241 {d : Nat} {Q : (Option Value ⊕ Nat) → mi_H → Prop} (n sl : Nat) (f : Nat → mi_C) {l1 : Nat} {l2 : Int32} {o3 : Option Value} {o4 : Option Value} {fs5 : List Value} (h6 : f l1 = .inr (12, fs5)) (h7 : l1 < n) (h8 : mi_W d 152 0 (mi_en 1 [.ref l1]) [] (n, sl, f) (mi_Kc d 165 242 [some (.ref l1), some (.int l2), o3, o4] [] Q)) : mi_W (d + 1) 165 241 [some (.ref l1), some (.int l2), o3, o4] [] (n, sl, f) Q := by
  refine w_aload_n cd_165_241 rfl ?_
  exact w_invokevirtual cd_165_242 (show mt_m 12 378 = some (152, 0) by decide +kernel) (rest := []) rfl (as := [.ref l1]) rfl h6 (Or.inl h7) ⟨Nat.le_of_ble_eq_true rfl, Nat.le_of_ble_eq_true rfl, Nat.le_of_ble_eq_true rfl⟩ h8
theorem b_165_245 {d : Nat} {Q : (Option Value ⊕ Nat) → mi_H → Prop} (n sl : Nat) (f : Nat → mi_C) {l1 : Nat} {l2 : Int32} {o3 : Option Value} {o4 : Option Value} {s5 : Int32} (h6 : ¬ s5 = (0 : Int32) → mi_W d 165 250 [some (.ref l1), some (.int l2), o3, o4] [] (n, sl, f) Q) (h7 : ¬ (¬ s5 = (0 : Int32)) → mi_W d 165 248 [some (.ref l1), some (.int l2), o3, o4] [] (n, sl, f) Q) : mi_W d 165 245 [some (.ref l1), some (.int l2), o3, o4] [.int s5] (n, sl, f) Q := by
  exact w_ifne cd_165_245 (by decide) h6 h7
theorem b_165_248 {d : Nat} {Q : (Option Value ⊕ Nat) → mi_H → Prop} (n sl : Nat) (f : Nat → mi_C) {l1 : Nat} {l2 : Int32} {o3 : Option Value} {o4 : Option Value} (h5 : Q (.inl (some (.int (-1)))) (n, sl, f)) : mi_W d 165 248 [some (.ref l1), some (.int l2), o3, o4] [] (n, sl, f) Q := by
  refine w_iconst (v := (-1)) cd_165_248 (by decide) ?_
  exact w_ireturn_i cd_165_249 (by decide +kernel) h5
theorem b_165_250 {d : Nat} {Q : (Option Value ⊕ Nat) → mi_H → Prop} (n sl : Nat) (f : Nat → mi_C) {l1 : Nat} {l2 : Int32} {o3 : Option Value} {o4 : Option Value} {fs5 : List Value} (h6 : f l1 = .inr (12, fs5)) (h7 : l1 < n) (h8 : mi_W d 155 0 (mi_en 2 [.ref l1, .int l2]) [] (n, sl, f) (mi_Kc d 165 252 [some (.ref l1), some (.int l2), o3, o4] [] Q)) : mi_W (d + 1) 165 250 [some (.ref l1), some (.int l2), o3, o4] [] (n, sl, f) Q := by
  refine w_aload_n cd_165_250 rfl ?_
  refine w_iload_n cd_165_251 rfl ?_
  exact w_invokevirtual cd_165_252 (show mt_m 12 390 = some (155, 0) by decide +kernel) (rest := []) rfl (as := [.ref l1, .int l2]) rfl h6 (Or.inl h7) ⟨Nat.le_of_ble_eq_true rfl, Nat.le_of_ble_eq_true rfl, Nat.le_of_ble_eq_true rfl⟩ h8
theorem b_165_255 {d : Nat} {Q : (Option Value ⊕ Nat) → mi_H → Prop} (n sl : Nat) (f : Nat → mi_C) {l1 : Nat} {l2 : Int32} {o3 : Option Value} {o4 : Option Value} {s5 : Int32} (h6 : s5 < (0 : Int32) → mi_W d 165 271 [some (.ref l1), some (.int l2), some (.int s5), o4] [] (n, sl, f) Q) (h7 : ¬ (s5 < (0 : Int32)) → mi_W d 165 260 [some (.ref l1), some (.int l2), some (.int s5), o4] [] (n, sl, f) Q) : mi_W d 165 255 [some (.ref l1), some (.int l2), o3, o4] [.int s5] (n, sl, f) Q := by
  refine w_istore_n (ls' := [some (.ref l1), some (.int l2), some (.int s5), o4]) cd_165_255 (Nat.le_of_ble_eq_true rfl) rfl ?_
  refine w_iload_n cd_165_256 rfl ?_
  exact w_iflt cd_165_257 (by decide) h6 h7
theorem b_165_260 {d : Nat} {Q : (Option Value ⊕ Nat) → mi_H → Prop} (n sl : Nat) (f : Nat → mi_C) {l1 : Nat} {l2 : Int32} {l3 : Int32} {o4 : Option Value} {fs5 : List Value} (h6 : f l1 = .inr (12, fs5)) (h7 : l1 < n) (h8 : mi_W d 143 0 (mi_en 4 [.ref l1]) [] (n, sl, f) (mi_Kc d 165 261 [some (.ref l1), some (.int l2), some (.int l3), o4] [] Q)) : mi_W (d + 1) 165 260 [some (.ref l1), some (.int l2), some (.int l3), o4] [] (n, sl, f) Q := by
  refine w_aload_n cd_165_260 rfl ?_
  exact w_invokevirtual cd_165_261 (show mt_m 12 333 = some (143, 0) by decide +kernel) (rest := []) rfl (as := [.ref l1]) rfl h6 (Or.inl h7) ⟨Nat.le_of_ble_eq_true rfl, Nat.le_of_ble_eq_true rfl, Nat.le_of_ble_eq_true rfl⟩ h8
theorem b_165_264 {d : Nat} {Q : (Option Value ⊕ Nat) → mi_H → Prop} (n sl : Nat) (f : Nat → mi_C) {l1 : Nat} {l2 : Int32} {l3 : Int32} {o4 : Option Value} {s5 : Int32} (h6 : s5 = (0 : Int32) → mi_W d 165 271 [some (.ref l1), some (.int l2), some (.int l3), o4] [] (n, sl, f) Q) (h7 : ¬ (s5 = (0 : Int32)) → mi_W d 165 267 [some (.ref l1), some (.int l2), some (.int l3), o4] [] (n, sl, f) Q) : mi_W d 165 264 [some (.ref l1), some (.int l2), some (.int l3), o4] [.int s5] (n, sl, f) Q := by
  exact w_ifeq cd_165_264 (by decide) h6 h7
theorem b_165_267 {d : Nat} {Q : (Option Value ⊕ Nat) → mi_H → Prop} (n sl : Nat) (f : Nat → mi_C) {l1 : Nat} {l2 : Int32} {l3 : Int32} {o4 : Option Value} (h5 : mi_W d 165 272 [some (.ref l1), some (.int l2), some (.int l3), o4] [.int 1] (n, sl, f) Q) : mi_W d 165 267 [some (.ref l1), some (.int l2), some (.int l3), o4] [] (n, sl, f) Q := by
  refine w_iconst (v := 1) cd_165_267 (by decide) ?_
  exact w_goto cd_165_268 (by decide) h5
theorem b_165_271 {d : Nat} {Q : (Option Value ⊕ Nat) → mi_H → Prop} (n sl : Nat) (f : Nat → mi_C) {l1 : Nat} {l2 : Int32} {l3 : Int32} {o4 : Option Value} (h5 : mi_W d 165 272 [some (.ref l1), some (.int l2), some (.int l3), o4] [.int 0] (n, sl, f) Q) : mi_W d 165 271 [some (.ref l1), some (.int l2), some (.int l3), o4] [] (n, sl, f) Q := by
  refine w_iconst (v := 0) cd_165_271 (by decide) ?_
  exact h5
theorem b_165_272 {d : Nat} {Q : (Option Value ⊕ Nat) → mi_H → Prop} (n sl : Nat) (f : Nat → mi_C) {l1 : Nat} {l2 : Int32} {l3 : Int32} {o4 : Option Value} {s5 : Int32} (h6 : s5 = (0 : Int32) → mi_W d 165 436 [some (.ref l1), some (.int l2), some (.int l3), some (.int s5)] [] (n, sl, f) Q) (h7 : ¬ (s5 = (0 : Int32)) → mi_W d 165 277 [some (.ref l1), some (.int l2), some (.int l3), some (.int s5)] [] (n, sl, f) Q) : mi_W d 165 272 [some (.ref l1), some (.int l2), some (.int l3), o4] [.int s5] (n, sl, f) Q := by
  refine w_istore_n (ls' := [some (.ref l1), some (.int l2), some (.int l3), some (.int s5)]) cd_165_272 (Nat.le_of_ble_eq_true rfl) rfl ?_
  refine w_iload_n cd_165_273 rfl ?_
  exact w_ifeq cd_165_274 (by decide) h6 h7
theorem b_165_277 {d : Nat} {Q : (Option Value ⊕ Nat) → mi_H → Prop} (n sl : Nat) (f : Nat → mi_C) {l1 : Nat} {l2 : Int32} {l3 : Int32} {l4 : Int32} {t5 : Nat} (h6 : mi_ts 278 124 22 27 #[121, 121, 38, 38, 75, 98] (l2 : Int32).toInt = some t5) (h7 : mi_W d 165 t5 [some (.ref l1), some (.int l2), some (.int l3), some (.int l4)] [] (n, sl, f) Q) : mi_W d 165 277 [some (.ref l1), some (.int l2), some (.int l3), some (.int l4)] [] (n, sl, f) Q := by
  refine w_iload_n cd_165_277 rfl ?_
  exact w_tableswitch cd_165_278 h6 h7
theorem b_165_316 {d : Nat} {Q : (Option Value ⊕ Nat) → mi_H → Prop} (n sl : Nat) (f : Nat → mi_C) {l1 : Nat} {l2 : Int32} {l3 : Int32} {l4 : Int32} {fs5 : List Value} {x8 : Nat} {fs10 : List Value} (h6 : f l1 = .inr (12, fs5)) (h7 : l1 < n) (h9 : fs5[13]? = some (.ref x8)) (h11 : f l1 = .inr (12, fs10)) (h12 : l1 < n) (h13 : mi_W d 165 0 (mi_en 4 [.ref l1]) [] (n, sl, f) (mi_Kc d 165 322 [some (.ref l1), some (.int l2), some (.int l3), some (.int l4)] [.int l3, .ref x8] Q)) : mi_W (d + 1) 165 316 [some (.ref l1), some (.int l2), some (.int l3), some (.int l4)] [] (n, sl, f) Q := by
  refine w_aload_n cd_165_316 rfl ?_
  refine w_getfield cd_165_317 (show mt_f 12 80 = some (12, 13) by decide +kernel) h6 h7 h9 ?_
  refine w_iload_n cd_165_320 rfl ?_
  refine w_aload_n cd_165_321 rfl ?_
  exact w_invokevirtual cd_165_322 (show mt_m 12 401 = some (165, 0) by decide +kernel) (rest := [.int l3, .ref x8]) rfl (as := [.ref l1]) rfl h11 (Or.inl h12) ⟨Nat.le_of_ble_eq_true rfl, Nat.le_of_ble_eq_true rfl, Nat.le_of_ble_eq_true rfl⟩ h13
theorem b_165_325 {d : Nat} {Q : (Option Value ⊕ Nat) → mi_H → Prop} (n sl : Nat) (f : Nat → mi_C) {l1 : Nat} {l2 : Int32} {l3 : Int32} {l4 : Int32} {s5 : Int32} {s6 : Int32} {s7 : Nat} (m8 i8 : Nat) (g8 : Nat → Int32) (h9 : f s7 = .inl (0, m8, .inl g8)) (h10 : s7 < n) (h11 : mi_ix s6 m8 i8) (h12 : s5 < (0 : Int32) → mi_W d 165 348 [some (.ref l1), some (.int l2), some (.int l3), some (.int l4)] [] (n, sl, (va_up f s7 (.inl (0, m8, .inl (upd g8 i8 s5))))) Q) (h13 : ¬ (s5 < (0 : Int32)) → mi_W d 165 330 [some (.ref l1), some (.int l2), some (.int l3), some (.int l4)] [] (n, sl, (va_up f s7 (.inl (0, m8, .inl (upd g8 i8 s5))))) Q) : mi_W d 165 325 [some (.ref l1), some (.int l2), some (.int l3), some (.int l4)] [.int s5, .int s6, .ref s7] (n, sl, f) Q := by
  refine w_dup_x2_iir cd_165_325 ?_
  refine w_iastore cd_165_326 h9 h10 h11 ?_
  exact w_iflt cd_165_327 (by decide) h12 h13
theorem b_165_330 {d : Nat} {Q : (Option Value ⊕ Nat) → mi_H → Prop} (n sl : Nat) (f : Nat → mi_C) {l1 : Nat} {l2 : Int32} {l3 : Int32} {l4 : Int32} {fs5 : List Value} {x8 : Nat} {fs10 : List Value} (h6 : f l1 = .inr (12, fs5)) (h7 : l1 < n) (h9 : fs5[14]? = some (.ref x8)) (h11 : f l1 = .inr (12, fs10)) (h12 : l1 < n) (h13 : mi_W d 165 0 (mi_en 4 [.ref l1]) [] (n, sl, f) (mi_Kc d 165 336 [some (.ref l1), some (.int l2), some (.int l3), some (.int l4)] [.int l3, .ref x8] Q)) : mi_W (d + 1) 165 330 [some (.ref l1), some (.int l2), some (.int l3), some (.int l4)] [] (n, sl, f) Q := by
  refine w_aload_n cd_165_330 rfl ?_
  refine w_getfield cd_165_331 (show mt_f 12 83 = some (12, 14) by decide +kernel) h6 h7 h9 ?_
  refine w_iload_n cd_165_334 rfl ?_
  refine w_aload_n cd_165_335 rfl ?_
  exact w_invokevirtual cd_165_336 (show mt_m 12 401 = some (165, 0) by decide +kernel) (rest := [.int l3, .ref x8]) rfl (as := [.ref l1]) rfl h11 (Or.inl h12) ⟨Nat.le_of_ble_eq_true rfl, Nat.le_of_ble_eq_true rfl, Nat.le_of_ble_eq_true rfl⟩ h13
theorem b_165_339 {d : Nat} {Q : (Option Value ⊕ Nat) → mi_H → Prop} (n sl : Nat) (f : Nat → mi_C) {l1 : Nat} {l2 : Int32} {l3 : Int32} {l4 : Int32} {s5 : Int32} {s6 : Int32} {s7 : Nat} (m8 i8 : Nat) (g8 : Nat → Int32) (h9 : f s7 = .inl (0, m8, .inl g8)) (h10 : s7 < n) (h11 : mi_ix s6 m8 i8) (h12 : s5 < (0 : Int32) → mi_W d 165 348 [some (.ref l1), some (.int l2), some (.int l3), some (.int l4)] [] (n, sl, (va_up f s7 (.inl (0, m8, .inl (upd g8 i8 s5))))) Q) (h13 : ¬ (s5 < (0 : Int32)) → mi_W d 165 344 [some (.ref l1), some (.int l2), some (.int l3), some (.int l4)] [] (n, sl, (va_up f s7 (.inl (0, m8, .inl (upd g8 i8 s5))))) Q) : mi_W d 165 339 [some (.ref l1), some (.int l2), some (.int l3), some (.int l4)] [.int s5, .int s6, .ref s7] (n, sl, f) Q := by
  refine w_dup_x2_iir cd_165_339 ?_
  refine w_iastore cd_165_340 h9 h10 h11 ?_
  exact w_iflt cd_165_341 (by decide) h12 h13
theorem b_165_344 {d : Nat} {Q : (Option Value ⊕ Nat) → mi_H → Prop} (n sl : Nat) (f : Nat → mi_C) {l1 : Nat} {l2 : Int32} {l3 : Int32} {l4 : Int32} (h5 : mi_W d 165 349 [some (.ref l1), some (.int l2), some (.int l3), some (.int l4)] [.int 1] (n, sl, f) Q) : mi_W d 165 344 [some (.ref l1), some (.int l2), some (.int l3), some (.int l4)] [] (n, sl, f) Q := by
  refine w_iconst (v := 1) cd_165_344 (by decide) ?_
  exact w_goto cd_165_345 (by decide) h5
theorem b_165_348 {d : Nat} {Q : (Option Value ⊕ Nat) → mi_H → Prop} (n sl : Nat) (f : Nat → mi_C) {l1 : Nat} {l2 : Int32} {l3 : Int32} {l4 : Int32} (h5 : mi_W d 165 349 [some (.ref l1), some (.int l2), some (.int l3), some (.int l4)] [.int 0] (n, sl, f) Q) : mi_W d 165 348 [some (.ref l1), some (.int l2), some (.int l3), some (.int l4)] [] (n, sl, f) Q := by
  refine w_iconst (v := 0) cd_165_348 (by decide) ?_
  exact h5
theorem b_165_349 {d : Nat} {Q : (Option Value ⊕ Nat) → mi_H → Prop} (n sl : Nat) (f : Nat → mi_C) {l1 : Nat} {l2 : Int32} {l3 : Int32} {l4 : Int32} {s5 : Int32} (h6 : mi_W d 165 436 [some (.ref l1), some (.int l2), some (.int l3), some (.int s5)] [] (n, sl, f) Q) : mi_W d 165 349 [some (.ref l1), some (.int l2), some (.int l3), some (.int l4)] [.int s5] (n, sl, f) Q := by
  refine w_istore_n (ls' := [some (.ref l1), some (.int l2), some (.int l3), some (.int s5)]) cd_165_349 (Nat.le_of_ble_eq_true rfl) rfl ?_
  exact w_goto cd_165_350 (by decide) h6
theorem b_165_353 {d : Nat} {Q : (Option Value ⊕ Nat) → mi_H → Prop} (n sl : Nat) (f : Nat → mi_C) {l1 : Nat} {l2 : Int32} {l3 : Int32} {l4 : Int32} {fs5 : List Value} {x8 : Nat} {fs10 : List Value} (h6 : f l1 = .inr (12, fs5)) (h7 : l1 < n) (h9 : fs5[13]? = some (.ref x8)) (h11 : f l1 = .inr (12, fs10)) (h12 : l1 < n) (h13 : mi_W d 165 0 (mi_en 4 [.ref l1]) [] (n, sl, f) (mi_Kc d 165 359 [some (.ref l1), some (.int l2), some (.int l3), some (.int l4)] [.int l3, .ref x8] Q)) : mi_W (d + 1) 165 353 [some (.ref l1), some (.int l2), some (.int l3), some (.int l4)] [] (n, sl, f) Q := by
  refine w_aload_n cd_165_353 rfl ?_
  refine w_getfield cd_165_354 (show mt_f 12 80 = some (12, 13) by decide +kernel) h6 h7 h9 ?_
  refine w_iload_n cd_165_357 rfl ?_
  refine w_aload_n cd_165_358 rfl ?_
  exact w_invokevirtual cd_165_359 (show mt_m 12 401 = some (165, 0) by decide +kernel) (rest := [.int l3, .ref x8]) rfl (as := [.ref l1]) rfl h11 (Or.inl h12) ⟨Nat.le_of_ble_eq_true rfl, Nat.le_of_ble_eq_true rfl, Nat.le_of_ble_eq_true rfl⟩ h13
theorem b_165_362 {d : Nat} {Q : (Option Value ⊕ Nat) → mi_H → Prop} (n sl : Nat) (f : Nat → mi_C) {l1 : Nat} {l2 : Int32} {l3 : Int32} {l4 : Int32} {s5 : Int32} {s6 : Int32} {s7 : Nat} (m8 i8 : Nat) (g8 : Nat → Int32) (h9 : f s7 = .inl (0, m8, .inl g8)) (h10 : s7 < n) (h11 : mi_ix s6 m8 i8) (h12 : s5 < (0 : Int32) → mi_W d 165 371 [some (.ref l1), some (.int l2), some (.int l3), some (.int l4)] [] (n, sl, (va_up f s7 (.inl (0, m8, .inl (upd g8 i8 s5))))) Q) (h13 : ¬ (s5 < (0 : Int32)) → mi_W d 165 367 [some (.ref l1), some (.int l2), some (.int l3), some (.int l4)] [] (n, sl, (va_up f s7 (.inl (0, m8, .inl (upd g8 i8 s5))))) Q) : mi_W d 165 362 [some (.ref l1), some (.int l2), some (.int l3), some (.int l4)] [.int s5, .int s6, .ref s7] (n, sl, f) Q := by
  refine w_dup_x2_iir cd_165_362 ?_
  refine w_iastore cd_165_363 h9 h10 h11 ?_
  exact w_iflt cd_165_364 (by decide) h12 h13
theorem b_165_367 {d : Nat} {Q : (Option Value ⊕ Nat) → mi_H → Prop} (n sl : Nat) (f : Nat → mi_C) {l1 : Nat} {l2 : Int32} {l3 : Int32} {l4 : Int32} (h5 : mi_W d 165 372 [some (.ref l1), some (.int l2), some (.int l3), some (.int l4)] [.int 1] (n, sl, f) Q) : mi_W d 165 367 [some (.ref l1), some (.int l2), some (.int l3), some (.int l4)] [] (n, sl, f) Q := by
  refine w_iconst (v := 1) cd_165_367 (by decide) ?_
  exact w_goto cd_165_368 (by decide) h5
theorem b_165_371 {d : Nat} {Q : (Option Value ⊕ Nat) → mi_H → Prop} (n sl : Nat) (f : Nat → mi_C) {l1 : Nat} {l2 : Int32} {l3 : Int32} {l4 : Int32} (h5 : mi_W d 165 372 [some (.ref l1), some (.int l2), some (.int l3), some (.int l4)] [.int 0] (n, sl, f) Q) : mi_W d 165 371 [some (.ref l1), some (.int l2), some (.int l3), some (.int l4)] [] (n, sl, f) Q := by
  refine w_iconst (v := 0) cd_165_371 (by decide) ?_
  exact h5
theorem b_165_372 {d : Nat} {Q : (Option Value ⊕ Nat) → mi_H → Prop} (n sl : Nat) (f : Nat → mi_C) {l1 : Nat} {l2 : Int32} {l3 : Int32} {l4 : Int32} {s5 : Int32} (h6 : mi_W d 165 436 [some (.ref l1), some (.int l2), some (.int l3), some (.int s5)] [] (n, sl, f) Q) : mi_W d 165 372 [some (.ref l1), some (.int l2), some (.int l3), some (.int l4)] [.int s5] (n, sl, f) Q := by
  refine w_istore_n (ls' := [some (.ref l1), some (.int l2), some (.int l3), some (.int s5)]) cd_165_372 (Nat.le_of_ble_eq_true rfl) rfl ?_
  exact w_goto cd_165_373 (by decide) h6
theorem b_165_376 {d : Nat} {Q : (Option Value ⊕ Nat) → mi_H → Prop} (n sl : Nat) (f : Nat → mi_C) {l1 : Nat} {l2 : Int32} {l3 : Int32} {l4 : Int32} {fs5 : List Value} {x8 : Nat} {fs10 : List Value} (h6 : f l1 = .inr (12, fs5)) (h7 : l1 < n) (h9 : fs5[13]? = some (.ref x8)) (h11 : f l1 = .inr (12, fs10)) (h12 : l1 < n) (h13 : mi_W d 162 0 (mi_en 5 [.ref l1]) [] (n, sl, f) (mi_Kc d 165 382 [some (.ref l1), some (.int l2), some (.int l3), some (.int l4)] [.int l3, .ref x8] Q)) : mi_W (d + 1) 165 376 [some (.ref l1), some (.int l2), some (.int l3), some (.int l4)] [] (n, sl, f) Q := by
  refine w_aload_n cd_165_376 rfl ?_
  refine w_getfield cd_165_377 (show mt_f 12 80 = some (12, 13) by decide +kernel) h6 h7 h9 ?_
  refine w_iload_n cd_165_380 rfl ?_
  refine w_aload_n cd_165_381 rfl ?_
  exact w_invokevirtual cd_165_382 (show mt_m 12 416 = some (162, 0) by decide +kernel) (rest := [.int l3, .ref x8]) rfl (as := [.ref l1]) rfl h11 (Or.inl h12) ⟨Nat.le_of_ble_eq_true rfl, Nat.le_of_ble_eq_true rfl, Nat.le_of_ble_eq_true rfl⟩ h13
theorem b_165_385 {d : Nat} {Q : (Option Value ⊕ Nat) → mi_H → Prop} (n sl : Nat) (f : Nat → mi_C) {l1 : Nat} {l2 : Int32} {l3 : Int32} {l4 : Int32} {s5 : Int32} {s6 : Int32} {s7 : Nat} (m8 i8 : Nat) (g8 : Nat → Int32) (h9 : f s7 = .inl (0, m8, .inl g8)) (h10 : s7 < n) (h11 : mi_ix s6 m8 i8) (h12 : s5 < (0 : Int32) → mi_W d 165 394 [some (.ref l1), some (.int l2), some (.int l3), some (.int l4)] [] (n, sl, (va_up f s7 (.inl (0, m8, .inl (upd g8 i8 s5))))) Q) (h13 : ¬ (s5 < (0 : Int32)) → mi_W d 165 390 [some (.ref l1), some (.int l2), some (.int l3), some (.int l4)] [] (n, sl, (va_up f s7 (.inl (0, m8, .inl (upd g8 i8 s5))))) Q) : mi_W d 165 385 [some (.ref l1), some (.int l2), some (.int l3), some (.int l4)] [.int s5, .int s6, .ref s7] (n, sl, f) Q := by
  refine w_dup_x2_iir cd_165_385 ?_
  refine w_iastore cd_165_386 h9 h10 h11 ?_
  exact w_iflt cd_165_387 (by decide) h12 h13
theorem b_165_390 {d : Nat} {Q : (Option Value ⊕ Nat) → mi_H → Prop} (n sl : Nat) (f : Nat → mi_C) {l1 : Nat} {l2 : Int32} {l3 : Int32} {l4 : Int32} (h5 : mi_W d 165 395 [some (.ref l1), some (.int l2), some (.int l3), some (.int l4)] [.int 1] (n, sl, f) Q) : mi_W d 165 390 [some (.ref l1), some (.int l2), some (.int l3), some (.int l4)] [] (n, sl, f) Q := by
  refine w_iconst (v := 1) cd_165_390 (by decide) ?_
  exact w_goto cd_165_391 (by decide) h5
theorem b_165_394 {d : Nat} {Q : (Option Value ⊕ Nat) → mi_H → Prop} (n sl : Nat) (f : Nat → mi_C) {l1 : Nat} {l2 : Int32} {l3 : Int32} {l4 : Int32} (h5 : mi_W d 165 395 [some (.ref l1), some (.int l2), some (.int l3), some (.int l4)] [.int 0] (n, sl, f) Q) : mi_W d 165 394 [some (.ref l1), some (.int l2), some (.int l3), some (.int l4)] [] (n, sl, f) Q := by
  refine w_iconst (v := 0) cd_165_394 (by decide) ?_
  exact h5
theorem b_165_395 {d : Nat} {Q : (Option Value ⊕ Nat) → mi_H → Prop} (n sl : Nat) (f : Nat → mi_C) {l1 : Nat} {l2 : Int32} {l3 : Int32} {l4 : Int32} {s5 : Int32} (h6 : mi_W d 165 436 [some (.ref l1), some (.int l2), some (.int l3), some (.int s5)] [] (n, sl, f) Q) : mi_W d 165 395 [some (.ref l1), some (.int l2), some (.int l3), some (.int l4)] [.int s5] (n, sl, f) Q := by
  refine w_istore_n (ls' := [some (.ref l1), some (.int l2), some (.int l3), some (.int s5)]) cd_165_395 (Nat.le_of_ble_eq_true rfl) rfl ?_
  exact w_goto cd_165_396 (by decide) h6
theorem b_165_399 {d : Nat} {Q : (Option Value ⊕ Nat) → mi_H → Prop} (n sl : Nat) (f : Nat → mi_C) {l1 : Nat} {l2 : Int32} {l3 : Int32} {l4 : Int32} (h5 : mi_W d 165 436 [some (.ref l1), some (.int l2), some (.int l3), some (.int l4)] [] (n, sl, f) Q) : mi_W d 165 399 [some (.ref l1), some (.int l2), some (.int l3), some (.int l4)] [] (n, sl, f) Q := by
  exact w_goto cd_165_399 (by decide) h5
theorem b_165_402 {d : Nat} {Q : (Option Value ⊕ Nat) → mi_H → Prop} (n sl : Nat) (f : Nat → mi_C) {l1 : Nat} {l2 : Int32} {l3 : Int32} {l4 : Int32} {fs5 : List Value} {x8 : Nat} {fs10 : List Value} (h6 : f l1 = .inr (12, fs5)) (h7 : l1 < n) (h9 : fs5[13]? = some (.ref x8)) (h11 : f l1 = .inr (12, fs10)) (h12 : l1 < n) (h13 : mi_W d 161 0 (mi_en 4 [.ref l1]) [] (n, sl, f) (mi_Kc d 165 408 [some (.ref l1), some (.int l2), some (.int l3), some (.int l4)] [.int l3, .ref x8] Q)) : mi_W (d + 1) 165 402 [some (.ref l1), some (.int l2), some (.int l3), some (.int l4)] [] (n, sl, f) Q := by
  refine w_aload_n cd_165_402 rfl ?_
  refine w_getfield cd_165_403 (show mt_f 12 80 = some (12, 13) by decide +kernel) h6 h7 h9 ?_
  refine w_iload_n cd_165_406 rfl ?_
  refine w_aload_n cd_165_407 rfl ?_
  exact w_invokevirtual cd_165_408 (show mt_m 12 399 = some (161, 0) by decide +kernel) (rest := [.int l3, .ref x8]) rfl (as := [.ref l1]) rfl h11 (Or.inl h12) ⟨Nat.le_of_ble_eq_true rfl, Nat.le_of_ble_eq_true rfl, Nat.le_of_ble_eq_true rfl⟩ h13
theorem b_165_411 {d : Nat} {Q : (Option Value ⊕ Nat) → mi_H → Prop} (n sl : Nat) (f : Nat → mi_C) {l1 : Nat} {l2 : Int32} {l3 : Int32} {l4 : Int32} {s5 : Int32} {s6 : Int32} {s7 : Nat} (m8 i8 : Nat) (g8 : Nat → Int32) (h9 : f s7 = .inl (0, m8, .inl g8)) (h10 : s7 < n) (h11 : mi_ix s6 m8 i8) (h12 : s5 < (0 : Int32) → mi_W d 165 434 [some (.ref l1), some (.int l2), some (.int l3), some (.int l4)] [] (n, sl, (va_up f s7 (.inl (0, m8, .inl (upd g8 i8 s5))))) Q) (h13 : ¬ (s5 < (0 : Int32)) → mi_W d 165 416 [some (.ref l1), some (.int l2), some (.int l3), some (.int l4)] [] (n, sl, (va_up f s7 (.inl (0, m8, .inl (upd g8 i8 s5))))) Q) : mi_W d 165 411 [some (.ref l1), some (.int l2), some (.int l3), some (.int l4)] [.int s5, .int s6, .ref s7] (n, sl, f) Q := by
  refine w_dup_x2_iir cd_165_411 ?_
  refine w_iastore cd_165_412 h9 h10 h11 ?_
  exact w_iflt cd_165_413 (by decide) h12 h13
theorem b_165_416 {d : Nat} {Q : (Option Value ⊕ Nat) → mi_H → Prop} (n sl : Nat) (f : Nat → mi_C) {l1 : Nat} {l2 : Int32} {l3 : Int32} {l4 : Int32} {fs5 : List Value} {x8 : Nat} {fs10 : List Value} (h6 : f l1 = .inr (12, fs5)) (h7 : l1 < n) (h9 : fs5[14]? = some (.ref x8)) (h11 : f l1 = .inr (12, fs10)) (h12 : l1 < n) (h13 : mi_W d 161 0 (mi_en 4 [.ref l1]) [] (n, sl, f) (mi_Kc d 165 422 [some (.ref l1), some (.int l2), some (.int l3), some (.int l4)] [.int l3, .ref x8] Q)) : mi_W (d + 1) 165 416 [some (.ref l1), some (.int l2), some (.int l3), some (.int l4)] [] (n, sl, f) Q := by
  refine w_aload_n cd_165_416 rfl ?_
  refine w_getfield cd_165_417 (show mt_f 12 83 = some (12, 14) by decide +kernel) h6 h7 h9 ?_
  refine w_iload_n cd_165_420 rfl ?_
  refine w_aload_n cd_165_421 rfl ?_
  exact w_invokevirtual cd_165_422 (show mt_m 12 399 = some (161, 0) by decide +kernel) (rest := [.int l3, .ref x8]) rfl (as := [.ref l1]) rfl h11 (Or.inl h12) ⟨Nat.le_of_ble_eq_true rfl, Nat.le_of_ble_eq_true rfl, Nat.le_of_ble_eq_true rfl⟩ h13
theorem b_165_425 {d : Nat} {Q : (Option Value ⊕ Nat) → mi_H → Prop} (n sl : Nat) (f : Nat → mi_C) {l1 : Nat} {l2 : Int32} {l3 : Int32} {l4 : Int32} {s5 : Int32} {s6 : Int32} {s7 : Nat} (m8 i8 : Nat) (g8 : Nat → Int32) (h9 : f s7 = .inl (0, m8, .inl g8)) (h10 : s7 < n) (h11 : mi_ix s6 m8 i8) (h12 : s5 < (0 : Int32) → mi_W d 165 434 [some (.ref l1), some (.int l2), some (.int l3), some (.int l4)] [] (n, sl, (va_up f s7 (.inl (0, m8, .inl (upd g8 i8 s5))))) Q) (h13 : ¬ (s5 < (0 : Int32)) → mi_W d 165 430 [some (.ref l1), some (.int l2), some (.int l3), some (.int l4)] [] (n, sl, (va_up f s7 (.inl (0, m8, .inl (upd g8 i8 s5))))) Q) : mi_W d 165 425 [some (.ref l1), some (.int l2), some (.int l3), some (.int l4)] [.int s5, .int s6, .ref s7] (n, sl, f) Q := by
  refine w_dup_x2_iir cd_165_425 ?_
  refine w_iastore cd_165_426 h9 h10 h11 ?_
  exact w_iflt cd_165_427 (by decide) h12 h13
theorem b_165_430 {d : Nat} {Q : (Option Value ⊕ Nat) → mi_H → Prop} (n sl : Nat) (f : Nat → mi_C) {l1 : Nat} {l2 : Int32} {l3 : Int32} {l4 : Int32} (h5 : mi_W d 165 435 [some (.ref l1), some (.int l2), some (.int l3), some (.int l4)] [.int 1] (n, sl, f) Q) : mi_W d 165 430 [some (.ref l1), some (.int l2), some (.int l3), some (.int l4)] [] (n, sl, f) Q := by
  refine w_iconst (v := 1) cd_165_430 (by decide) ?_
  exact w_goto cd_165_431 (by decide) h5
theorem b_165_434 {d : Nat} {Q : (Option Value ⊕ Nat) → mi_H → Prop} (n sl : Nat) (f : Nat → mi_C) {l1 : Nat} {l2 : Int32} {l3 : Int32} {l4 : Int32} (h5 : mi_W d 165 435 [some (.ref l1), some (.int l2), some (.int l3), some (.int l4)] [.int 0] (n, sl, f) Q) : mi_W d 165 434 [some (.ref l1), some (.int l2), some (.int l3), some (.int l4)] [] (n, sl, f) Q := by
  refine w_iconst (v := 0) cd_165_434 (by decide) ?_
  exact h5
theorem b_165_435 {d : Nat} {Q : (Option Value ⊕ Nat) → mi_H → Prop} (n sl : Nat) (f : Nat → mi_C) {l1 : Nat} {l2 : Int32} {l3 : Int32} {l4 : Int32} {s5 : Int32} (h6 : mi_W d 165 436 [some (.ref l1), some (.int l2), some (.int l3), some (.int s5)] [] (n, sl, f) Q) : mi_W d 165 435 [some (.ref l1), some (.int l2), some (.int l3), some (.int l4)] [.int s5] (n, sl, f) Q := by
  refine w_istore_n (ls' := [some (.ref l1), some (.int l2), some (.int l3), some (.int s5)]) cd_165_435 (Nat.le_of_ble_eq_true rfl) rfl ?_
  exact h6
theorem b_165_436 {d : Nat} {Q : (Option Value ⊕ Nat) → mi_H → Prop} (n sl : Nat) (f : Nat → mi_C) {l1 : Nat} {l2 : Int32} {l3 : Int32} {l4 : Int32} {fs5 : List Value} {x8 : Int32} {fs10 : List Value} (h6 : f l1 = .inr (12, fs5)) (h7 : l1 < n) (h9 : fs5[22]? = some (.int x8)) (h11 : f l1 = .inr (12, fs10)) (h12 : l1 < n) (h13 : 22 < fs10.length) (h14 : l4 = (0 : Int32) → mi_W d 165 454 [some (.ref l1), some (.int l2), some (.int l3), some (.int l4)] [] (n, sl, (va_up f l1 (.inr (12, fs10.set 22 (.int (x8 - 1)))))) Q) (h15 : ¬ (l4 = (0 : Int32)) → mi_W d 165 450 [some (.ref l1), some (.int l2), some (.int l3), some (.int l4)] [] (n, sl, (va_up f l1 (.inr (12, fs10.set 22 (.int (x8 - 1)))))) Q) : mi_W d 165 436 [some (.ref l1), some (.int l2), some (.int l3), some (.int l4)] [] (n, sl, f) Q := by
  refine w_aload_n cd_165_436 rfl ?_
  refine w_dup_r cd_165_437 ?_
  refine w_getfield cd_165_438 (show mt_f 12 337 = some (12, 22) by decide +kernel) h6 h7 h9 ?_
  refine w_iconst (v := 1) cd_165_441 (by decide) ?_
  refine w_isub cd_165_442 ?_
  refine w_putfield (w := .int (x8 - 1)) cd_165_443 (show mt_f 12 337 = some (12, 22) by decide +kernel) h11 h12 ⟨h13, rfl, Or.inl (by decide)⟩ ?_
  refine w_iload_n cd_165_446 rfl ?_
  exact w_ifeq cd_165_447 (by decide) h14 h15
theorem b_165_450 {d : Nat} {Q : (Option Value ⊕ Nat) → mi_H → Prop} (n sl : Nat) (f : Nat → mi_C) {l1 : Nat} {l2 : Int32} {l3 : Int32} {l4 : Int32} (h5 : mi_W d 165 455 [some (.ref l1), some (.int l2), some (.int l3), some (.int l4)] [.int l3] (n, sl, f) Q) : mi_W d 165 450 [some (.ref l1), some (.int l2), some (.int l3), some (.int l4)] [] (n, sl, f) Q := by
  refine w_iload_n cd_165_450 rfl ?_
  exact w_goto cd_165_451 (by decide) h5
theorem b_165_454 {d : Nat} {Q : (Option Value ⊕ Nat) → mi_H → Prop} (n sl : Nat) (f : Nat → mi_C) {l1 : Nat} {l2 : Int32} {l3 : Int32} {l4 : Int32} (h5 : mi_W d 165 455 [some (.ref l1), some (.int l2), some (.int l3), some (.int l4)] [.int (-1)] (n, sl, f) Q) : mi_W d 165 454 [some (.ref l1), some (.int l2), some (.int l3), some (.int l4)] [] (n, sl, f) Q := by
  refine w_iconst (v := (-1)) cd_165_454 (by decide) ?_
  exact h5
theorem b_165_455 {d : Nat} {Q : (Option Value ⊕ Nat) → mi_H → Prop} (n sl : Nat) (f : Nat → mi_C) {l1 : Nat} {l2 : Int32} {l3 : Int32} {l4 : Int32} {s5 : Int32} (h6 : Q (.inl (some (.int s5))) (n, sl, f)) : mi_W d 165 455 [some (.ref l1), some (.int l2), some (.int l3), some (.int l4)] [.int s5] (n, sl, f) Q := by
  exact w_ireturn_i cd_165_455 (by decide +kernel) h6
/-! MarloweHostModel.when(I)Z -/
set_option maxRecDepth 100000 in
theorem mq_166 : mt_q 166 = my_166 := rfl
set_option maxRecDepth 100000 in
theorem ci_166 : mt_inc 0 my_166.cd = true := by decide +kernel
theorem cd_166_0 : mt_cd 166 0 = some (.aload_n 0) := mt_cd_of (q := (0, .aload_n 0, 1)) mq_166 ci_166 (List.mem_append_left _ (show _ ∈ my_166_0 from List.mem_of_getElem? (i := 0) rfl))
theorem cd_166_1 : mt_cd 166 1 = some (.aload_n 0) := mt_cd_of (q := (1, .aload_n 0, 1)) mq_166 ci_166 (List.mem_append_left _ (show _ ∈ my_166_0 from List.mem_of_getElem? (i := 1) rfl))
theorem cd_166_2 : mt_cd 166 2 = some (.ldc_w 409) := mt_cd_of (q := (2, .ldc_w 409, 3)) mq_166 ci_166 (List.mem_append_left _ (show _ ∈ my_166_0 from List.mem_of_getElem? (i := 2) rfl))
theorem cd_166_5 : mt_cd 166 5 = some (.invokevirtual 375) := mt_cd_of (q := (5, .invokevirtual 375, 3)) mq_166 ci_166 (List.mem_append_left _ (show _ ∈ my_166_0 from List.mem_of_getElem? (i := 3) rfl))
theorem cd_166_8 : mt_cd 166 8 = some (.invokevirtual 383) := mt_cd_of (q := (8, .invokevirtual 383, 3)) mq_166 ci_166 (List.mem_append_left _ (show _ ∈ my_166_0 from List.mem_of_getElem? (i := 4) rfl))
theorem cd_166_11 : mt_cd 166 11 = some (.ifCond .ne 5) := mt_cd_of (q := (11, .ifCond .ne 5, 3)) mq_166 ci_166 (List.mem_append_left _ (show _ ∈ my_166_0 from List.mem_of_getElem? (i := 5) rfl))
theorem cd_166_14 : mt_cd 166 14 = some (.iconst 0) := mt_cd_of (q := (14, .iconst 0, 1)) mq_166 ci_166 (List.mem_append_left _ (show _ ∈ my_166_0 from List.mem_of_getElem? (i := 6) rfl))
theorem cd_166_15 : mt_cd 166 15 = some (.ireturn) := mt_cd_of (q := (15, .ireturn, 1)) mq_166 ci_166 (List.mem_append_left _ (show _ ∈ my_166_0 from List.mem_of_getElem? (i := 7) rfl))
theorem cd_166_16 : mt_cd 166 16 = some (.aload_n 0) := mt_cd_of (q := (16, .aload_n 0, 1)) mq_166 ci_166 (List.mem_append_left _ (show _ ∈ my_166_0 from List.mem_of_getElem? (i := 8) rfl))
theorem cd_166_17 : mt_cd 166 17 = some (.getfield 92) := mt_cd_of (q := (17, .getfield 92, 3)) mq_166 ci_166 (List.mem_append_left _ (show _ ∈ my_166_0 from List.mem_of_getElem? (i := 9) rfl))
theorem cd_166_20 : mt_cd 166 20 = some (.iload_n 1) := mt_cd_of (q := (20, .iload_n 1, 1)) mq_166 ci_166 (List.mem_append_left _ (show _ ∈ my_166_0 from List.mem_of_getElem? (i := 10) rfl))
theorem cd_166_21 : mt_cd 166 21 = some (.iconst (-1)) := mt_cd_of (q := (21, .iconst (-1), 1)) mq_166 ci_166 (List.mem_append_left _ (show _ ∈ my_166_0 from List.mem_of_getElem? (i := 11) rfl))
theorem cd_166_22 : mt_cd 166 22 = some (.iastore) := mt_cd_of (q := (22, .iastore, 1)) mq_166 ci_166 (List.mem_append_left _ (show _ ∈ my_166_0 from List.mem_of_getElem? (i := 12) rfl))
theorem cd_166_23 : mt_cd 166 23 = some (.iconst (-1)) := mt_cd_of (q := (23, .iconst (-1), 1)) mq_166 ci_166 (List.mem_append_left _ (show _ ∈ my_166_0 from List.mem_of_getElem? (i := 13) rfl))
theorem cd_166_24 : mt_cd 166 24 = some (.istore_n 2) := mt_cd_of (q := (24, .istore_n 2, 1)) mq_166 ci_166 (List.mem_append_left _ (show _ ∈ my_166_0 from List.mem_of_getElem? (i := 14) rfl))
theorem cd_166_25 : mt_cd 166 25 = some (.iconst 0) := mt_cd_of (q := (25, .iconst 0, 1)) mq_166 ci_166 (List.mem_append_left _ (show _ ∈ my_166_0 from List.mem_of_getElem? (i := 15) rfl))
theorem cd_166_26 : mt_cd 166 26 = some (.istore_n 3) := mt_cd_of (q := (26, .istore_n 3, 1)) mq_166 ci_166 (List.mem_append_left _ (show _ ∈ my_166_0 from List.mem_of_getElem? (i := 16) rfl))
theorem cd_166_27 : mt_cd 166 27 = some (.aload_n 0) := mt_cd_of (q := (27, .aload_n 0, 1)) mq_166 ci_166 (List.mem_append_left _ (show _ ∈ my_166_0 from List.mem_of_getElem? (i := 17) rfl))
theorem cd_166_28 : mt_cd 166 28 = some (.ldc_w 411) := mt_cd_of (q := (28, .ldc_w 411, 3)) mq_166 ci_166 (List.mem_append_left _ (show _ ∈ my_166_0 from List.mem_of_getElem? (i := 18) rfl))
theorem cd_166_31 : mt_cd 166 31 = some (.invokevirtual 375) := mt_cd_of (q := (31, .invokevirtual 375, 3)) mq_166 ci_166 (List.mem_append_left _ (show _ ∈ my_166_0 from List.mem_of_getElem? (i := 19) rfl))
theorem cd_166_34 : mt_cd 166 34 = some (.ifCond .ne 154) := mt_cd_of (q := (34, .ifCond .ne 154, 3)) mq_166 ci_166 (List.mem_append_left _ (show _ ∈ my_166_0 from List.mem_of_getElem? (i := 20) rfl))
theorem cd_166_37 : mt_cd 166 37 = some (.aload_n 0) := mt_cd_of (q := (37, .aload_n 0, 1)) mq_166 ci_166 (List.mem_append_left _ (show _ ∈ my_166_0 from List.mem_of_getElem? (i := 21) rfl))
theorem cd_166_38 : mt_cd 166 38 = some (.ldc 41) := mt_cd_of (q := (38, .ldc 41, 2)) mq_166 ci_166 (List.mem_append_left _ (show _ ∈ my_166_0 from List.mem_of_getElem? (i := 22) rfl))
theorem cd_166_40 : mt_cd 166 40 = some (.invokevirtual 387) := mt_cd_of (q := (40, .invokevirtual 387, 3)) mq_166 ci_166 (List.mem_append_left _ (show _ ∈ my_166_0 from List.mem_of_getElem? (i := 23) rfl))
theorem cd_166_43 : mt_cd 166 43 = some (.ifCond .eq 8) := mt_cd_of (q := (43, .ifCond .eq 8, 3)) mq_166 ci_166 (List.mem_append_left _ (show _ ∈ my_166_0 from List.mem_of_getElem? (i := 24) rfl))
theorem cd_166_46 : mt_cd 166 46 = some (.bipush 7) := mt_cd_of (q := (46, .bipush 7, 2)) mq_166 ci_166 (List.mem_append_left _ (show _ ∈ my_166_0 from List.mem_of_getElem? (i := 25) rfl))
theorem cd_166_48 : mt_cd 166 48 = some (.goto 32) := mt_cd_of (q := (48, .goto 32, 3)) mq_166 ci_166 (List.mem_append_left _ (show _ ∈ my_166_0 from List.mem_of_getElem? (i := 26) rfl))
theorem cd_166_51 : mt_cd 166 51 = some (.aload_n 0) := mt_cd_of (q := (51, .aload_n 0, 1)) mq_166 ci_166 (List.mem_append_left _ (show _ ∈ my_166_0 from List.mem_of_getElem? (i := 27) rfl))
theorem cd_166_52 : mt_cd 166 52 = some (.ldc 43) := mt_cd_of (q := (52, .ldc 43, 2)) mq_166 ci_166 (List.mem_append_left _ (show _ ∈ my_166_0 from List.mem_of_getElem? (i := 28) rfl))
theorem cd_166_54 : mt_cd 166 54 = some (.invokevirtual 387) := mt_cd_of (q := (54, .invokevirtual 387, 3)) mq_166 ci_166 (List.mem_append_left _ (show _ ∈ my_166_0 from List.mem_of_getElem? (i := 29) rfl))
theorem cd_166_57 : mt_cd 166 57 = some (.ifCond .eq 8) := mt_cd_of (q := (57, .ifCond .eq 8, 3)) mq_166 ci_166 (List.mem_append_left _ (show _ ∈ my_166_0 from List.mem_of_getElem? (i := 30) rfl))
theorem cd_166_60 : mt_cd 166 60 = some (.bipush 8) := mt_cd_of (q := (60, .bipush 8, 2)) mq_166 ci_166 (List.mem_append_left _ (show _ ∈ my_166_0 from List.mem_of_getElem? (i := 31) rfl))
theorem cd_166_62 : mt_cd 166 62 = some (.goto 18) := mt_cd_of (q := (62, .goto 18, 3)) mq_166 ci_166 (List.mem_append_left _ (show _ ∈ my_166_0 from List.mem_of_getElem? (i := 32) rfl))
theorem cd_166_65 : mt_cd 166 65 = some (.aload_n 0) := mt_cd_of (q := (65, .aload_n 0, 1)) mq_166 ci_166 (List.mem_append_left _ (show _ ∈ my_166_0 from List.mem_of_getElem? (i := 33) rfl))
theorem cd_166_66 : mt_cd 166 66 = some (.ldc 45) := mt_cd_of (q := (66, .ldc 45, 2)) mq_166 ci_166 (List.mem_append_left _ (show _ ∈ my_166_0 from List.mem_of_getElem? (i := 34) rfl))
theorem cd_166_68 : mt_cd 166 68 = some (.invokevirtual 387) := mt_cd_of (q := (68, .invokevirtual 387, 3)) mq_166 ci_166 (List.mem_append_left _ (show _ ∈ my_166_0 from List.mem_of_getElem? (i := 35) rfl))
theorem cd_166_71 : mt_cd 166 71 = some (.ifCond .eq 8) := mt_cd_of (q := (71, .ifCond .eq 8, 3)) mq_166 ci_166 (List.mem_append_left _ (show _ ∈ my_166_0 from List.mem_of_getElem? (i := 36) rfl))
theorem cd_166_74 : mt_cd 166 74 = some (.bipush 9) := mt_cd_of (q := (74, .bipush 9, 2)) mq_166 ci_166 (List.mem_append_left _ (show _ ∈ my_166_0 from List.mem_of_getElem? (i := 37) rfl))
theorem cd_166_76 : mt_cd 166 76 = some (.goto 4) := mt_cd_of (q := (76, .goto 4, 3)) mq_166 ci_166 (List.mem_append_left _ (show _ ∈ my_166_0 from List.mem_of_getElem? (i := 38) rfl))
theorem cd_166_79 : mt_cd 166 79 = some (.iconst (-1)) := mt_cd_of (q := (79, .iconst (-1), 1)) mq_166 ci_166 (List.mem_append_left _ (show _ ∈ my_166_0 from List.mem_of_getElem? (i := 39) rfl))
theorem cd_166_80 : mt_cd 166 80 = some (.istore 4) := mt_cd_of (q := (80, .istore 4, 2)) mq_166 ci_166 (List.mem_append_left _ (show _ ∈ my_166_0 from List.mem_of_getElem? (i := 40) rfl))
theorem cd_166_82 : mt_cd 166 82 = some (.iload 4) := mt_cd_of (q := (82, .iload 4, 2)) mq_166 ci_166 (List.mem_append_left _ (show _ ∈ my_166_0 from List.mem_of_getElem? (i := 41) rfl))
theorem cd_166_84 : mt_cd 166 84 = some (.ifCond .lt 12) := mt_cd_of (q := (84, .ifCond .lt 12, 3)) mq_166 ci_166 (List.mem_append_left _ (show _ ∈ my_166_0 from List.mem_of_getElem? (i := 42) rfl))
theorem cd_166_87 : mt_cd 166 87 = some (.iload_n 3) := mt_cd_of (q := (87, .iload_n 3, 1)) mq_166 ci_166 (List.mem_append_left _ (show _ ∈ my_166_0 from List.mem_of_getElem? (i := 43) rfl))
theorem cd_166_88 : mt_cd 166 88 = some (.iinc 3 1) := mt_cd_of (q := (88, .iinc 3 1, 3)) mq_166 ci_166 (List.mem_append_left _ (show _ ∈ my_166_0 from List.mem_of_getElem? (i := 44) rfl))
theorem cd_166_91 : mt_cd 166 91 = some (.bipush 8) := mt_cd_of (q := (91, .bipush 8, 2)) mq_166 ci_166 (List.mem_append_left _ (show _ ∈ my_166_0 from List.mem_of_getElem? (i := 45) rfl))
theorem cd_166_93 : mt_cd 166 93 = some (.if_icmp .ne 12) := mt_cd_of (q := (93, .if_icmp .ne 12, 3)) mq_166 ci_166 (List.mem_append_left _ (show _ ∈ my_166_0 from List.mem_of_getElem? (i := 46) rfl))
theorem cd_166_96 : mt_cd 166 96 = some (.aload_n 0) := mt_cd_of (q := (96, .aload_n 0, 1)) mq_166 ci_166 (List.mem_append_left _ (show _ ∈ my_166_0 from List.mem_of_getElem? (i := 47) rfl))
theorem cd_166_97 : mt_cd 166 97 = some (.aload_n 0) := mt_cd_of (q := (97, .aload_n 0, 1)) mq_166 ci_166 (List.mem_append_left _ (show _ ∈ my_166_0 from List.mem_of_getElem? (i := 48) rfl))
theorem cd_166_98 : mt_cd 166 98 = some (.getfield 299) := mt_cd_of (q := (98, .getfield 299, 3)) mq_166 ci_166 (List.mem_append_left _ (show _ ∈ my_166_0 from List.mem_of_getElem? (i := 49) rfl))
theorem cd_166_101 : mt_cd 166 101 = some (.invokevirtual 272) := mt_cd_of (q := (101, .invokevirtual 272, 3)) mq_166 ci_166 (List.mem_append_left _ (show _ ∈ my_166_0 from List.mem_of_getElem? (i := 50) rfl))
theorem cd_166_104 : mt_cd 166 104 = some (.ireturn) := mt_cd_of (q := (104, .ireturn, 1)) mq_166 ci_166 (List.mem_append_left _ (show _ ∈ my_166_0 from List.mem_of_getElem? (i := 51) rfl))
theorem cd_166_105 : mt_cd 166 105 = some (.aload_n 0) := mt_cd_of (q := (105, .aload_n 0, 1)) mq_166 ci_166 (List.mem_append_left _ (show _ ∈ my_166_0 from List.mem_of_getElem? (i := 52) rfl))
theorem cd_166_106 : mt_cd 166 106 = some (.iload 4) := mt_cd_of (q := (106, .iload 4, 2)) mq_166 ci_166 (List.mem_append_left _ (show _ ∈ my_166_0 from List.mem_of_getElem? (i := 53) rfl))
theorem cd_166_108 : mt_cd 166 108 = some (.invokevirtual 390) := mt_cd_of (q := (108, .invokevirtual 390, 3)) mq_166 ci_166 (List.mem_append_left _ (show _ ∈ my_166_0 from List.mem_of_getElem? (i := 54) rfl))
theorem cd_166_111 : mt_cd 166 111 = some (.istore 5) := mt_cd_of (q := (111, .istore 5, 2)) mq_166 ci_166 (List.mem_append_left _ (show _ ∈ my_166_0 from List.mem_of_getElem? (i := 55) rfl))
theorem cd_166_113 : mt_cd 166 113 = some (.iload 5) := mt_cd_of (q := (113, .iload 5, 2)) mq_166 ci_166 (List.mem_append_left _ (show _ ∈ my_166_0 from List.mem_of_getElem? (i := 56) rfl))
theorem cd_166_115 : mt_cd 166 115 = some (.ifCond .lt 34) := mt_cd_of (q := (115, .ifCond .lt 34, 3)) mq_166 ci_166 (List.mem_append_left _ (show _ ∈ my_166_0 from List.mem_of_getElem? (i := 57) rfl))
theorem cd_166_118 : mt_cd 166 118 = some (.aload_n 0) := mt_cd_of (q := (118, .aload_n 0, 1)) mq_166 ci_166 (List.mem_append_left _ (show _ ∈ my_166_0 from List.mem_of_getElem? (i := 58) rfl))
theorem cd_166_119 : mt_cd 166 119 = some (.invokevirtual 333) := mt_cd_of (q := (119, .invokevirtual 333, 3)) mq_166 ci_166 (List.mem_append_left _ (show _ ∈ my_166_0 from List.mem_of_getElem? (i := 59) rfl))
theorem cd_166_122 : mt_cd 166 122 = some (.ifCond .eq 27) := mt_cd_of (q := (122, .ifCond .eq 27, 3)) mq_166 ci_166 (List.mem_append_right _ (List.mem_append_left _ (show _ ∈ my_166_1 from List.mem_of_getElem? (i := 0) rfl)))
theorem cd_166_125 : mt_cd 166 125 = some (.aload_n 0) := mt_cd_of (q := (125, .aload_n 0, 1)) mq_166 ci_166 (List.mem_append_right _ (List.mem_append_left _ (show _ ∈ my_166_1 from List.mem_of_getElem? (i := 1) rfl)))
theorem cd_166_126 : mt_cd 166 126 = some (.iload 5) := mt_cd_of (q := (126, .iload 5, 2)) mq_166 ci_166 (List.mem_append_right _ (List.mem_append_left _ (show _ ∈ my_166_1 from List.mem_of_getElem? (i := 2) rfl)))
theorem cd_166_128 : mt_cd 166 128 = some (.invokevirtual 413) := mt_cd_of (q := (128, .invokevirtual 413, 3)) mq_166 ci_166 (List.mem_append_right _ (List.mem_append_left _ (show _ ∈ my_166_1 from List.mem_of_getElem? (i := 3) rfl)))
theorem cd_166_131 : mt_cd 166 131 = some (.ifCond .eq 18) := mt_cd_of (q := (131, .ifCond .eq 18, 3)) mq_166 ci_166 (List.mem_append_right _ (List.mem_append_left _ (show _ ∈ my_166_1 from List.mem_of_getElem? (i := 4) rfl)))
theorem cd_166_134 : mt_cd 166 134 = some (.aload_n 0) := mt_cd_of (q := (134, .aload_n 0, 1)) mq_166 ci_166 (List.mem_append_right _ (List.mem_append_left _ (show _ ∈ my_166_1 from List.mem_of_getElem? (i := 5) rfl)))
theorem cd_166_135 : mt_cd 166 135 = some (.getfield 98) := mt_cd_of (q := (135, .getfield 98, 3)) mq_166 ci_166 (List.mem_append_right _ (List.mem_append_left _ (show _ ∈ my_166_1 from List.mem_of_getElem? (i := 6) rfl)))
theorem cd_166_138 : mt_cd 166 138 = some (.iload 5) := mt_cd_of (q := (138, .iload 5, 2)) mq_166 ci_166 (List.mem_append_right _ (List.mem_append_left _ (show _ ∈ my_166_1 from List.mem_of_getElem? (i := 7) rfl)))
theorem cd_166_140 : mt_cd 166 140 = some (.aload_n 0) := mt_cd_of (q := (140, .aload_n 0, 1)) mq_166 ci_166 (List.mem_append_right _ (List.mem_append_left _ (show _ ∈ my_166_1 from List.mem_of_getElem? (i := 8) rfl)))
theorem cd_166_141 : mt_cd 166 141 = some (.invokevirtual 355) := mt_cd_of (q := (141, .invokevirtual 355, 3)) mq_166 ci_166 (List.mem_append_right _ (List.mem_append_left _ (show _ ∈ my_166_1 from List.mem_of_getElem? (i := 9) rfl)))
theorem cd_166_144 : mt_cd 166 144 = some (.dup_x2) := mt_cd_of (q := (144, .dup_x2, 1)) mq_166 ci_166 (List.mem_append_right _ (List.mem_append_left _ (show _ ∈ my_166_1 from List.mem_of_getElem? (i := 10) rfl)))
theorem cd_166_145 : mt_cd 166 145 = some (.iastore) := mt_cd_of (q := (145, .iastore, 1)) mq_166 ci_166 (List.mem_append_right _ (List.mem_append_left _ (show _ ∈ my_166_1 from List.mem_of_getElem? (i := 11) rfl)))
theorem cd_166_146 : mt_cd 166 146 = some (.ifCond .ge 5) := mt_cd_of (q := (146, .ifCond .ge 5, 3)) mq_166 ci_166 (List.mem_append_right _ (List.mem_append_left _ (show _ ∈ my_166_1 from List.mem_of_getElem? (i := 12) rfl)))
theorem cd_166_149 : mt_cd 166 149 = some (.iconst 0) := mt_cd_of (q := (149, .iconst 0, 1)) mq_166 ci_166 (List.mem_append_right _ (List.mem_append_left _ (show _ ∈ my_166_1 from List.mem_of_getElem? (i := 13) rfl)))
theorem cd_166_150 : mt_cd 166 150 = some (.ireturn) := mt_cd_of (q := (150, .ireturn, 1)) mq_166 ci_166 (List.mem_append_right _ (List.mem_append_left _ (show _ ∈ my_166_1 from List.mem_of_getElem? (i := 14) rfl)))
theorem cd_166_151 : mt_cd 166 151 = some (.iload_n 2) := mt_cd_of (q := (151, .iload_n 2, 1)) mq_166 ci_166 (List.mem_append_right _ (List.mem_append_left _ (show _ ∈ my_166_1 from List.mem_of_getElem? (i := 15) rfl)))
theorem cd_166_152 : mt_cd 166 152 = some (.ifCond .ge 14) := mt_cd_of (q := (152, .ifCond .ge 14, 3)) mq_166 ci_166 (List.mem_append_right _ (List.mem_append_left _ (show _ ∈ my_166_1 from List.mem_of_getElem? (i := 16) rfl)))
theorem cd_166_155 : mt_cd 166 155 = some (.aload_n 0) := mt_cd_of (q := (155, .aload_n 0, 1)) mq_166 ci_166 (List.mem_append_right _ (List.mem_append_left _ (show _ ∈ my_166_1 from List.mem_of_getElem? (i := 17) rfl)))
theorem cd_166_156 : mt_cd 166 156 = some (.getfield 92) := mt_cd_of (q := (156, .getfield 92, 3)) mq_166 ci_166 (List.mem_append_right _ (List.mem_append_left _ (show _ ∈ my_166_1 from List.mem_of_getElem? (i := 18) rfl)))
theorem cd_166_159 : mt_cd 166 159 = some (.iload_n 1) := mt_cd_of (q := (159, .iload_n 1, 1)) mq_166 ci_166 (List.mem_append_right _ (List.mem_append_left _ (show _ ∈ my_166_1 from List.mem_of_getElem? (i := 19) rfl)))
theorem cd_166_160 : mt_cd 166 160 = some (.iload 5) := mt_cd_of (q := (160, .iload 5, 2)) mq_166 ci_166 (List.mem_append_right _ (List.mem_append_left _ (show _ ∈ my_166_1 from List.mem_of_getElem? (i := 20) rfl)))
theorem cd_166_162 : mt_cd 166 162 = some (.iastore) := mt_cd_of (q := (162, .iastore, 1)) mq_166 ci_166 (List.mem_append_right _ (List.mem_append_left _ (show _ ∈ my_166_1 from List.mem_of_getElem? (i := 21) rfl)))
theorem cd_166_163 : mt_cd 166 163 = some (.goto 11) := mt_cd_of (q := (163, .goto 11, 3)) mq_166 ci_166 (List.mem_append_right _ (List.mem_append_left _ (show _ ∈ my_166_1 from List.mem_of_getElem? (i := 22) rfl)))
theorem cd_166_166 : mt_cd 166 166 = some (.aload_n 0) := mt_cd_of (q := (166, .aload_n 0, 1)) mq_166 ci_166 (List.mem_append_right _ (List.mem_append_left _ (show _ ∈ my_166_1 from List.mem_of_getElem? (i := 23) rfl)))
theorem cd_166_167 : mt_cd 166 167 = some (.getfield 138) := mt_cd_of (q := (167, .getfield 138, 3)) mq_166 ci_166 (List.mem_append_right _ (List.mem_append_left _ (show _ ∈ my_166_1 from List.mem_of_getElem? (i := 24) rfl)))
theorem cd_166_170 : mt_cd 166 170 = some (.iload_n 2) := mt_cd_of (q := (170, .iload_n 2, 1)) mq_166 ci_166 (List.mem_append_right _ (List.mem_append_left _ (show _ ∈ my_166_1 from List.mem_of_getElem? (i := 25) rfl)))
theorem cd_166_171 : mt_cd 166 171 = some (.iload 5) := mt_cd_of (q := (171, .iload 5, 2)) mq_166 ci_166 (List.mem_append_right _ (List.mem_append_left _ (show _ ∈ my_166_1 from List.mem_of_getElem? (i := 26) rfl)))
theorem cd_166_173 : mt_cd 166 173 = some (.iastore) := mt_cd_of (q := (173, .iastore, 1)) mq_166 ci_166 (List.mem_append_right _ (List.mem_append_left _ (show _ ∈ my_166_1 from List.mem_of_getElem? (i := 27) rfl)))
theorem cd_166_174 : mt_cd 166 174 = some (.aload_n 0) := mt_cd_of (q := (174, .aload_n 0, 1)) mq_166 ci_166 (List.mem_append_right _ (List.mem_append_left _ (show _ ∈ my_166_1 from List.mem_of_getElem? (i := 28) rfl)))
theorem cd_166_175 : mt_cd 166 175 = some (.getfield 138) := mt_cd_of (q := (175, .getfield 138, 3)) mq_166 ci_166 (List.mem_append_right _ (List.mem_append_left _ (show _ ∈ my_166_1 from List.mem_of_getElem? (i := 29) rfl)))
theorem cd_166_178 : mt_cd 166 178 = some (.iload 5) := mt_cd_of (q := (178, .iload 5, 2)) mq_166 ci_166 (List.mem_append_right _ (List.mem_append_left _ (show _ ∈ my_166_1 from List.mem_of_getElem? (i := 30) rfl)))
theorem cd_166_180 : mt_cd 166 180 = some (.iconst (-1)) := mt_cd_of (q := (180, .iconst (-1), 1)) mq_166 ci_166 (List.mem_append_right _ (List.mem_append_left _ (show _ ∈ my_166_1 from List.mem_of_getElem? (i := 31) rfl)))
theorem cd_166_181 : mt_cd 166 181 = some (.iastore) := mt_cd_of (q := (181, .iastore, 1)) mq_166 ci_166 (List.mem_append_right _ (List.mem_append_left _ (show _ ∈ my_166_1 from List.mem_of_getElem? (i := 32) rfl)))
theorem cd_166_182 : mt_cd 166 182 = some (.iload 5) := mt_cd_of (q := (182, .iload 5, 2)) mq_166 ci_166 (List.mem_append_right _ (List.mem_append_left _ (show _ ∈ my_166_1 from List.mem_of_getElem? (i := 33) rfl)))
theorem cd_166_184 : mt_cd 166 184 = some (.istore_n 2) := mt_cd_of (q := (184, .istore_n 2, 1)) mq_166 ci_166 (List.mem_append_right _ (List.mem_append_left _ (show _ ∈ my_166_1 from List.mem_of_getElem? (i := 34) rfl)))
theorem cd_166_185 : mt_cd 166 185 = some (.goto (-158)) := mt_cd_of (q := (185, .goto (-158), 3)) mq_166 ci_166 (List.mem_append_right _ (List.mem_append_left _ (show _ ∈ my_166_1 from List.mem_of_getElem? (i := 35) rfl)))
theorem cd_166_188 : mt_cd 166 188 = some (.aload_n 0) := mt_cd_of (q := (188, .aload_n 0, 1)) mq_166 ci_166 (List.mem_append_right _ (List.mem_append_left _ (show _ ∈ my_166_1 from List.mem_of_getElem? (i := 36) rfl)))
theorem cd_166_189 : mt_cd 166 189 = some (.invokevirtual 333) := mt_cd_of (q := (189, .invokevirtual 333, 3)) mq_166 ci_166 (List.mem_append_right _ (List.mem_append_left _ (show _ ∈ my_166_1 from List.mem_of_getElem? (i := 37) rfl)))
theorem cd_166_192 : mt_cd 166 192 = some (.ifCond .ne 5) := mt_cd_of (q := (192, .ifCond .ne 5, 3)) mq_166 ci_166 (List.mem_append_right _ (List.mem_append_left _ (show _ ∈ my_166_1 from List.mem_of_getElem? (i := 38) rfl)))
theorem cd_166_195 : mt_cd 166 195 = some (.iconst 0) := mt_cd_of (q := (195, .iconst 0, 1)) mq_166 ci_166 (List.mem_append_right _ (List.mem_append_left _ (show _ ∈ my_166_1 from List.mem_of_getElem? (i := 39) rfl)))
theorem cd_166_196 : mt_cd 166 196 = some (.ireturn) := mt_cd_of (q := (196, .ireturn, 1)) mq_166 ci_166 (List.mem_append_right _ (List.mem_append_left _ (show _ ∈ my_166_1 from List.mem_of_getElem? (i := 40) rfl)))
theorem cd_166_197 : mt_cd 166 197 = some (.aload_n 0) := mt_cd_of (q := (197, .aload_n 0, 1)) mq_166 ci_166 (List.mem_append_right _ (List.mem_append_left _ (show _ ∈ my_166_1 from List.mem_of_getElem? (i := 41) rfl)))
theorem cd_166_198 : mt_cd 166 198 = some (.getfield 310) := mt_cd_of (q := (198, .getfield 310, 3)) mq_166 ci_166 (List.mem_append_right _ (List.mem_append_left _ (show _ ∈ my_166_1 from List.mem_of_getElem? (i := 42) rfl)))
theorem cd_166_201 : mt_cd 166 201 = some (.iconst 2) := mt_cd_of (q := (201, .iconst 2, 1)) mq_166 ci_166 (List.mem_append_right _ (List.mem_append_left _ (show _ ∈ my_166_1 from List.mem_of_getElem? (i := 43) rfl)))
theorem cd_166_202 : mt_cd 166 202 = some (.if_icmp .eq 12) := mt_cd_of (q := (202, .if_icmp .eq 12, 3)) mq_166 ci_166 (List.mem_append_right _ (List.mem_append_left _ (show _ ∈ my_166_1 from List.mem_of_getElem? (i := 44) rfl)))
theorem cd_166_205 : mt_cd 166 205 = some (.aload_n 0) := mt_cd_of (q := (205, .aload_n 0, 1)) mq_166 ci_166 (List.mem_append_right _ (List.mem_append_left _ (show _ ∈ my_166_1 from List.mem_of_getElem? (i := 45) rfl)))
theorem cd_166_206 : mt_cd 166 206 = some (.aload_n 0) := mt_cd_of (q := (206, .aload_n 0, 1)) mq_166 ci_166 (List.mem_append_right _ (List.mem_append_left _ (show _ ∈ my_166_1 from List.mem_of_getElem? (i := 46) rfl)))
theorem cd_166_207 : mt_cd 166 207 = some (.getfield 299) := mt_cd_of (q := (207, .getfield 299, 3)) mq_166 ci_166 (List.mem_append_right _ (List.mem_append_left _ (show _ ∈ my_166_1 from List.mem_of_getElem? (i := 47) rfl)))
theorem cd_166_210 : mt_cd 166 210 = some (.invokevirtual 272) := mt_cd_of (q := (210, .invokevirtual 272, 3)) mq_166 ci_166 (List.mem_append_right _ (List.mem_append_left _ (show _ ∈ my_166_1 from List.mem_of_getElem? (i := 48) rfl)))
theorem cd_166_213 : mt_cd 166 213 = some (.ireturn) := mt_cd_of (q := (213, .ireturn, 1)) mq_166 ci_166 (List.mem_append_right _ (List.mem_append_left _ (show _ ∈ my_166_1 from List.mem_of_getElem? (i := 49) rfl)))
theorem cd_166_214 : mt_cd 166 214 = some (.aload_n 0) := mt_cd_of (q := (214, .aload_n 0, 1)) mq_166 ci_166 (List.mem_append_right _ (List.mem_append_left _ (show _ ∈ my_166_1 from List.mem_of_getElem? (i := 50) rfl)))
theorem cd_166_215 : mt_cd 166 215 = some (.getfield 101) := mt_cd_of (q := (215, .getfield 101, 3)) mq_166 ci_166 (List.mem_append_right _ (List.mem_append_left _ (show _ ∈ my_166_1 from List.mem_of_getElem? (i := 51) rfl)))
theorem cd_166_218 : mt_cd 166 218 = some (.iload_n 1) := mt_cd_of (q := (218, .iload_n 1, 1)) mq_166 ci_166 (List.mem_append_right _ (List.mem_append_left _ (show _ ∈ my_166_1 from List.mem_of_getElem? (i := 52) rfl)))
theorem cd_166_219 : mt_cd 166 219 = some (.aload_n 0) := mt_cd_of (q := (219, .aload_n 0, 1)) mq_166 ci_166 (List.mem_append_right _ (List.mem_append_left _ (show _ ∈ my_166_1 from List.mem_of_getElem? (i := 53) rfl)))
theorem cd_166_220 : mt_cd 166 220 = some (.getfield 327) := mt_cd_of (q := (220, .getfield 327, 3)) mq_166 ci_166 (List.mem_append_right _ (List.mem_append_left _ (show _ ∈ my_166_1 from List.mem_of_getElem? (i := 54) rfl)))
theorem cd_166_223 : mt_cd 166 223 = some (.lastore) := mt_cd_of (q := (223, .lastore, 1)) mq_166 ci_166 (List.mem_append_right _ (List.mem_append_left _ (show _ ∈ my_166_1 from List.mem_of_getElem? (i := 55) rfl)))
theorem cd_166_224 : mt_cd 166 224 = some (.aload_n 0) := mt_cd_of (q := (224, .aload_n 0, 1)) mq_166 ci_166 (List.mem_append_right _ (List.mem_append_left _ (show _ ∈ my_166_1 from List.mem_of_getElem? (i := 56) rfl)))
theorem cd_166_225 : mt_cd 166 225 = some (.invokevirtual 333) := mt_cd_of (q := (225, .invokevirtual 333, 3)) mq_166 ci_166 (List.mem_append_right _ (List.mem_append_left _ (show _ ∈ my_166_1 from List.mem_of_getElem? (i := 57) rfl)))
theorem cd_166_228 : mt_cd 166 228 = some (.ifCond .eq 21) := mt_cd_of (q := (228, .ifCond .eq 21, 3)) mq_166 ci_166 (List.mem_append_right _ (List.mem_append_left _ (show _ ∈ my_166_1 from List.mem_of_getElem? (i := 58) rfl)))
theorem cd_166_231 : mt_cd 166 231 = some (.aload_n 0) := mt_cd_of (q := (231, .aload_n 0, 1)) mq_166 ci_166 (List.mem_append_right _ (List.mem_append_left _ (show _ ∈ my_166_1 from List.mem_of_getElem? (i := 59) rfl)))
theorem cd_166_232 : mt_cd 166 232 = some (.getfield 98) := mt_cd_of (q := (232, .getfield 98, 3)) mq_166 ci_166 (List.mem_append_right _ (List.mem_append_right _ ((show _ ∈ my_166_2 from List.mem_of_getElem? (i := 0) rfl))))
theorem cd_166_235 : mt_cd 166 235 = some (.iload_n 1) := mt_cd_of (q := (235, .iload_n 1, 1)) mq_166 ci_166 (List.mem_append_right _ (List.mem_append_right _ ((show _ ∈ my_166_2 from List.mem_of_getElem? (i := 1) rfl))))
theorem cd_166_236 : mt_cd 166 236 = some (.aload_n 0) := mt_cd_of (q := (236, .aload_n 0, 1)) mq_166 ci_166 (List.mem_append_right _ (List.mem_append_right _ ((show _ ∈ my_166_2 from List.mem_of_getElem? (i := 2) rfl))))
theorem cd_166_237 : mt_cd 166 237 = some (.invokevirtual 355) := mt_cd_of (q := (237, .invokevirtual 355, 3)) mq_166 ci_166 (List.mem_append_right _ (List.mem_append_right _ ((show _ ∈ my_166_2 from List.mem_of_getElem? (i := 3) rfl))))
theorem cd_166_240 : mt_cd 166 240 = some (.dup_x2) := mt_cd_of (q := (240, .dup_x2, 1)) mq_166 ci_166 (List.mem_append_right _ (List.mem_append_right _ ((show _ ∈ my_166_2 from List.mem_of_getElem? (i := 4) rfl))))
theorem cd_166_241 : mt_cd 166 241 = some (.iastore) := mt_cd_of (q := (241, .iastore, 1)) mq_166 ci_166 (List.mem_append_right _ (List.mem_append_right _ ((show _ ∈ my_166_2 from List.mem_of_getElem? (i := 5) rfl))))
theorem cd_166_242 : mt_cd 166 242 = some (.ifCond .lt 7) := mt_cd_of (q := (242, .ifCond .lt 7, 3)) mq_166 ci_166 (List.mem_append_right _ (List.mem_append_right _ ((show _ ∈ my_166_2 from List.mem_of_getElem? (i := 6) rfl))))
theorem cd_166_245 : mt_cd 166 245 = some (.iconst 1) := mt_cd_of (q := (245, .iconst 1, 1)) mq_166 ci_166 (List.mem_append_right _ (List.mem_append_right _ ((show _ ∈ my_166_2 from List.mem_of_getElem? (i := 7) rfl))))
theorem cd_166_246 : mt_cd 166 246 = some (.goto 4) := mt_cd_of (q := (246, .goto 4, 3)) mq_166 ci_166 (List.mem_append_right _ (List.mem_append_right _ ((show _ ∈ my_166_2 from List.mem_of_getElem? (i := 8) rfl))))
theorem cd_166_249 : mt_cd 166 249 = some (.iconst 0) := mt_cd_of (q := (249, .iconst 0, 1)) mq_166 ci_166 (List.mem_append_right _ (List.mem_append_right _ ((show _ ∈ my_166_2 from List.mem_of_getElem? (i := 9) rfl))))
theorem cd_166_250 : mt_cd 166 250 = some (.ireturn) := mt_cd_of (q := (250, .ireturn, 1)) mq_166 ci_166 (List.mem_append_right _ (List.mem_append_right _ ((show _ ∈ my_166_2 from List.mem_of_getElem? (i := 10) rfl))))
theorem b_166_0 {d : Nat} {Q : (Option Value ⊕ Nat) → mi_H → Prop} (n sl : Nat) (f : Nat → mi_C) {l1 : Nat} {l2 : Int32} {o3 : Option Value} {o4 : Option Value} {o5 : Option Value} {o6 : Option Value} {fs7 : List Value} (h8 : f l1 = .inr (12, fs7)) (h9 : l1 < n) (h10 : mi_W d 151 0 (mi_en 2 [.ref l1, .ref (mi_SC + 1 + 2 * 51)]) [] (n, sl, f) (mi_Kc d 166 5 [some (.ref l1), some (.int l2), o3, o4, o5, o6] [.ref l1] Q)) : mi_W (d + 1) 166 0 [some (.ref l1), some (.int l2), o3, o4, o5, o6] [] (n, sl, f) Q := by
  refine w_aload_n cd_166_0 rfl ?_
  refine w_aload_n cd_166_1 rfl ?_
  refine w_ldc_w (n := 51) cd_166_2 (by decide +kernel) ?_
  exact w_invokevirtual cd_166_5 (show mt_m 12 375 = some (151, 0) by decide +kernel) (rest := [.ref l1]) rfl (as := [.ref l1, .ref (mi_SC + 1 + 2 * 51)]) rfl h8 (Or.inl h9) ⟨Nat.le_of_ble_eq_true rfl, Nat.le_of_ble_eq_true rfl, Nat.le_of_ble_eq_true rfl⟩ h10
theorem b_166_8 {d : Nat} {Q : (Option Value ⊕ Nat) → mi_H → Prop} (n sl : Nat) (f : Nat → mi_C) {l1 : Nat} {l2 : Int32} {o3 : Option Value} {o4 : Option Value} {o5 : Option Value} {o6 : Option Value} {s7 : Int32} {s8 : Nat} {fs9 : List Value} (h10 : f s8 = .inr (12, fs9)) (h11 : s8 < n) (h12 : mi_W d 153 0 (mi_en 2 [.ref s8, .int s7]) [] (n, sl, f) (mi_Kc d 166 8 [some (.ref l1), some (.int l2), o3, o4, o5, o6] [] Q)) : mi_W (d + 1) 166 8 [some (.ref l1), some (.int l2), o3, o4, o5, o6] [.int s7, .ref s8] (n, sl, f) Q := by
  exact w_invokevirtual cd_166_8 (show mt_m 12 383 = some (153, 0) by decide +kernel) (rest := []) rfl (as := [.ref s8, .int s7]) rfl h10 (Or.inl h11) ⟨Nat.le_of_ble_eq_true rfl, Nat.le_of_ble_eq_true rfl, Nat.le_of_ble_eq_true rfl⟩ h12
theorem b_166_11 {d : Nat} {Q : (Option Value ⊕ Nat) → mi_H → Prop} (n sl : Nat) (f : Nat → mi_C) {l1 : Nat} {l2 : Int32} {o3 : Option Value} {o4 : Option Value} {o5 : Option Value} {o6 : Option Value} {s7 : Int32} (h8 : ¬ s7 = (0 : Int32) → mi_W d 166 16 [some (.ref l1), some (.int l2), o3, o4, o5, o6] [] (n, sl, f) Q) (h9 : ¬ (¬ s7 = (0 : Int32)) → mi_W d 166 14 [some (.ref l1), some (.int l2), o3, o4, o5, o6] [] (n, sl, f) Q) : mi_W d 166 11 [some (.ref l1), some (.int l2), o3, o4, o5, o6] [.int s7] (n, sl, f) Q := by
  exact w_ifne cd_166_11 (by decide) h8 h9
theorem b_166_14 {d : Nat} {Q : (Option Value ⊕ Nat) → mi_H → Prop} (n sl : Nat) (f : Nat → mi_C) {l1 : Nat} {l2 : Int32} {o3 : Option Value} {o4 : Option Value} {o5 : Option Value} {o6 : Option Value} (h7 : Q (.inl (some (.int 0))) (n, sl, f)) : mi_W d 166 14 [some (.ref l1), some (.int l2), o3, o4, o5, o6] [] (n, sl, f) Q := by
  refine w_iconst (v := 0) cd_166_14 (by decide) ?_
  exact w_ireturn_z cd_166_15 (by decide +kernel) (by decide) h7
theorem b_166_16 {d : Nat} {Q : (Option Value ⊕ Nat) → mi_H → Prop} (n sl : Nat) (f : Nat → mi_C) {l1 : Nat} {l2 : Int32} {o3 : Option Value} {o4 : Option Value} {o5 : Option Value} {o6 : Option Value} {fs7 : List Value} {x10 : Nat} (m12 i12 : Nat) (g12 : Nat → Int32) (h8 : f l1 = .inr (12, fs7)) (h9 : l1 < n) (h11 : fs7[17]? = some (.ref x10)) (h13 : f x10 = .inl (0, m12, .inl g12)) (h14 : x10 < n) (h15 : mi_ix l2 m12 i12) (h16 : mi_W d 166 27 [some (.ref l1), some (.int l2), some (.int (-1)), some (.int 0), o5, o6] [] (n, sl, (va_up f x10 (.inl (0, m12, .inl (upd g12 i12 ((-1))))))) Q) : mi_W d 166 16 [some (.ref l1), some (.int l2), o3, o4, o5, o6] [] (n, sl, f) Q := by
  refine w_aload_n cd_166_16 rfl ?_
  refine w_getfield cd_166_17 (show mt_f 12 92 = some (12, 17) by decide +kernel) h8 h9 h11 ?_
  refine w_iload_n cd_166_20 rfl ?_
  refine w_iconst (v := (-1)) cd_166_21 (by decide) ?_
  refine w_iastore cd_166_22 h13 h14 h15 ?_
  refine w_iconst (v := (-1)) cd_166_23 (by decide) ?_
  refine w_istore_n (ls' := [some (.ref l1), some (.int l2), some (.int (-1)), o4, o5, o6]) cd_166_24 (Nat.le_of_ble_eq_true rfl) rfl ?_
  refine w_iconst (v := 0) cd_166_25 (by decide) ?_
  refine w_istore_n (ls' := [some (.ref l1), some (.int l2), some (.int (-1)), some (.int 0), o5, o6]) cd_166_26 (Nat.le_of_ble_eq_true rfl) rfl ?_
  exact h16
theorem b_166_27 {d : Nat} {Q : (Option Value ⊕ Nat) → mi_H → Prop} (n sl : Nat) (f : Nat → mi_C) {l1 : Nat} {l2 : Int32} {l3 : Int32} {l4 : Int32} {o5 : Option Value} {o6 : Option Value} {fs7 : List Value} (h8 : f l1 = .inr (12, fs7)) (h9 : l1 < n) (h10 : mi_W d 151 0 (mi_en 2 [.ref l1, .ref (mi_SC + 1 + 2 * 52)]) [] (n, sl, f) (mi_Kc d 166 31 [some (.ref l1), some (.int l2), some (.int l3), some (.int l4), o5, o6] [] Q)) : mi_W (d + 1) 166 27 [some (.ref l1), some (.int l2), some (.int l3), some (.int l4), o5, o6] [] (n, sl, f) Q := by
  refine w_aload_n cd_166_27 rfl ?_
  refine w_ldc_w (n := 52) cd_166_28 (by decide +kernel) ?_
  exact w_invokevirtual cd_166_31 (show mt_m 12 375 = some (151, 0) by decide +kernel) (rest := []) rfl (as := [.ref l1, .ref (mi_SC + 1 + 2 * 52)]) rfl h8 (Or.inl h9) ⟨Nat.le_of_ble_eq_true rfl, Nat.le_of_ble_eq_true rfl, Nat.le_of_ble_eq_true rfl⟩ h10
theorem b_166_34 {d : Nat} {Q : (Option Value ⊕ Nat) → mi_H → Prop} (n sl : Nat) (f : Nat → mi_C) {l1 : Nat} {l2 : Int32} {l3 : Int32} {l4 : Int32} {o5 : Option Value} {o6 : Option Value} {s7 : Int32} (h8 : ¬ s7 = (0 : Int32) → mi_W d 166 188 [some (.ref l1), some (.int l2), some (.int l3), some (.int l4), o5, o6] [] (n, sl, f) Q) (h9 : ¬ (¬ s7 = (0 : Int32)) → mi_W d 166 37 [some (.ref l1), some (.int l2), some (.int l3), some (.int l4), o5, o6] [] (n, sl, f) Q) : mi_W d 166 34 [some (.ref l1), some (.int l2), some (.int l3), some (.int l4), o5, o6] [.int s7] (n, sl, f) Q := by
  exact w_ifne cd_166_34 (by decide) h8 h9
theorem b_166_37 {d : Nat} {Q : (Option Value ⊕ Nat) → mi_H → Prop} (n sl : Nat) (f : Nat → mi_C) {l1 : Nat} {l2 : Int32} {l3 : Int32} {l4 : Int32} {o5 : Option Value} {o6 : Option Value} {fs7 : List Value} (h8 : f l1 = .inr (12, fs7)) (h9 : l1 < n) (h10 : mi_W d 154 0 (mi_en 2 [.ref l1, .ref (mi_SC + 1 + 2 * 24)]) [] (n, sl, f) (mi_Kc d 166 40 [some (.ref l1), some (.int l2), some (.int l3), some (.int l4), o5, o6] [] Q)) : mi_W (d + 1) 166 37 [some (.ref l1), some (.int l2), some (.int l3), some (.int l4), o5, o6] [] (n, sl, f) Q := by
  refine w_aload_n cd_166_37 rfl ?_
  refine w_ldc (n := 24) cd_166_38 (by decide +kernel) ?_
  exact w_invokevirtual cd_166_40 (show mt_m 12 387 = some (154, 0) by decide +kernel) (rest := []) rfl (as := [.ref l1, .ref (mi_SC + 1 + 2 * 24)]) rfl h8 (Or.inl h9) ⟨Nat.le_of_ble_eq_true rfl, Nat.le_of_ble_eq_true rfl, Nat.le_of_ble_eq_true rfl⟩ h10
theorem b_166_43 {d : Nat} {Q : (Option Value ⊕ Nat) → mi_H → Prop} (n sl : Nat) (f : Nat → mi_C) {l1 : Nat} {l2 : Int32} {l3 : Int32} {l4 : Int32} {o5 : Option Value} {o6 : Option Value} {s7 : Int32} (h8 : s7 = (0 : Int32) → mi_W d 166 51 [some (.ref l1), some (.int l2), some (.int l3), some (.int l4), o5, o6] [] (n, sl, f) Q) (h9 : ¬ (s7 = (0 : Int32)) → mi_W d 166 46 [some (.ref l1), some (.int l2), some (.int l3), some (.int l4), o5, o6] [] (n, sl, f) Q) : mi_W d 166 43 [some (.ref l1), some (.int l2), some (.int l3), some (.int l4), o5, o6] [.int s7] (n, sl, f) Q := by
  exact w_ifeq cd_166_43 (by decide) h8 h9
theorem b_166_46 {d : Nat} {Q : (Option Value ⊕ Nat) → mi_H → Prop} (n sl : Nat) (f : Nat → mi_C) {l1 : Nat} {l2 : Int32} {l3 : Int32} {l4 : Int32} {o5 : Option Value} {o6 : Option Value} (h7 : mi_W d 166 80 [some (.ref l1), some (.int l2), some (.int l3), some (.int l4), o5, o6] [.int 7] (n, sl, f) Q) : mi_W d 166 46 [some (.ref l1), some (.int l2), some (.int l3), some (.int l4), o5, o6] [] (n, sl, f) Q := by
  refine w_bipush (v := 7) cd_166_46 (by decide) ?_
  exact w_goto cd_166_48 (by decide) h7
theorem b_166_51 {d : Nat} {Q : (Option Value ⊕ Nat) → mi_H → Prop} (n sl : Nat) (f : Nat → mi_C) {l1 : Nat} {l2 : Int32} {l3 : Int32} {l4 : Int32} {o5 : Option Value} {o6 : Option Value} {fs7 : List Value} (h8 : f l1 = .inr (12, fs7)) (h9 : l1 < n) (h10 : mi_W d 154 0 (mi_en 2 [.ref l1, .ref (mi_SC + 1 + 2 * 25)]) [] (n, sl, f) (mi_Kc d 166 54 [some (.ref l1), some (.int l2), some (.int l3), some (.int l4), o5, o6] [] Q)) : mi_W (d + 1) 166 51 [some (.ref l1), some (.int l2), some (.int l3), some (.int l4), o5, o6] [] (n, sl, f) Q := by
  refine w_aload_n cd_166_51 rfl ?_
  refine w_ldc (n := 25) cd_166_52 (by decide +kernel) ?_
  exact w_invokevirtual cd_166_54 (show mt_m 12 387 = some (154, 0) by decide +kernel) (rest := []) rfl (as := [.ref l1, .ref (mi_SC + 1 + 2 * 25)]) rfl h8 (Or.inl h9) ⟨Nat.le_of_ble_eq_true rfl, Nat.le_of_ble_eq_true rfl, Nat.le_of_ble_eq_true rfl⟩ h10
theorem b_166_57 {d : Nat} {Q : (Option Value ⊕ Nat) → mi_H → Prop} (n sl : Nat) (f : Nat → mi_C) {l1 : Nat} {l2 : Int32} {l3 : Int32} {l4 : Int32} {o5 : Option Value} {o6 : Option Value} {s7 : Int32} (h8 : s7 = (0 : Int32) → mi_W d 166 65 [some (.ref l1), some (.int l2), some (.int l3), some (.int l4), o5, o6] [] (n, sl, f) Q) (h9 : ¬ (s7 = (0 : Int32)) → mi_W d 166 60 [some (.ref l1), some (.int l2), some (.int l3), some (.int l4), o5, o6] [] (n, sl, f) Q) : mi_W d 166 57 [some (.ref l1), some (.int l2), some (.int l3), some (.int l4), o5, o6] [.int s7] (n, sl, f) Q := by
  exact w_ifeq cd_166_57 (by decide) h8 h9
theorem b_166_60 {d : Nat} {Q : (Option Value ⊕ Nat) → mi_H → Prop} (n sl : Nat) (f : Nat → mi_C) {l1 : Nat} {l2 : Int32} {l3 : Int32} {l4 : Int32} {o5 : Option Value} {o6 : Option Value} (h7 : mi_W d 166 80 [some (.ref l1), some (.int l2), some (.int l3), some (.int l4), o5, o6] [.int 8] (n, sl, f) Q) : mi_W d 166 60 [some (.ref l1), some (.int l2), some (.int l3), some (.int l4), o5, o6] [] (n, sl, f) Q := by
  refine w_bipush (v := 8) cd_166_60 (by decide) ?_
  exact w_goto cd_166_62 (by decide) h7
theorem b_166_65 {d : Nat} {Q : (Option Value ⊕ Nat) → mi_H → Prop} (n sl : Nat) (f : Nat → mi_C) {l1 : Nat} {l2 : Int32} {l3 : Int32} {l4 : Int32} {o5 : Option Value} {o6 : Option Value} {fs7 : List Value} (h8 : f l1 = .inr (12, fs7)) (h9 : l1 < n) (h10 : mi_W d 154 0 (mi_en 2 [.ref l1, .ref (mi_SC + 1 + 2 * 26)]) [] (n, sl, f) (mi_Kc d 166 68 [some (.ref l1), some (.int l2), some (.int l3), some (.int l4), o5, o6] [] Q)) : mi_W (d + 1) 166 65 [some (.ref l1), some (.int l2), some (.int l3), some (.int l4), o5, o6] [] (n, sl, f) Q := by
  refine w_aload_n cd_166_65 rfl ?_
  refine w_ldc (n := 26) cd_166_66 (by decide +kernel) ?_
  exact w_invokevirtual cd_166_68 (show mt_m 12 387 = some (154, 0) by decide +kernel) (rest := []) rfl (as := [.ref l1, .ref (mi_SC + 1 + 2 * 26)]) rfl h8 (Or.inl h9) ⟨Nat.le_of_ble_eq_true rfl, Nat.le_of_ble_eq_true rfl, Nat.le_of_ble_eq_true rfl⟩ h10
theorem b_166_71 {d : Nat} {Q : (Option Value ⊕ Nat) → mi_H → Prop} (n sl : Nat) (f : Nat → mi_C) {l1 : Nat} {l2 : Int32} {l3 : Int32} {l4 : Int32} {o5 : Option Value} {o6 : Option Value} {s7 : Int32} (h8 : s7 = (0 : Int32) → mi_W d 166 79 [some (.ref l1), some (.int l2), some (.int l3), some (.int l4), o5, o6] [] (n, sl, f) Q) (h9 : ¬ (s7 = (0 : Int32)) → mi_W d 166 74 [some (.ref l1), some (.int l2), some (.int l3), some (.int l4), o5, o6] [] (n, sl, f) Q) : mi_W d 166 71 [some (.ref l1), some (.int l2), some (.int l3), some (.int l4), o5, o6] [.int s7] (n, sl, f) Q := by
  exact w_ifeq cd_166_71 (by decide) h8 h9
theorem b_166_74 {d : Nat} {Q : (Option Value ⊕ Nat) → mi_H → Prop} (n sl : Nat) (f : Nat → mi_C) {l1 : Nat} {l2 : Int32} {l3 : Int32} {l4 : Int32} {o5 : Option Value} {o6 : Option Value} (h7 : mi_W d 166 80 [some (.ref l1), some (.int l2), some (.int l3), some (.int l4), o5, o6] [.int 9] (n, sl, f) Q) : mi_W d 166 74 [some (.ref l1), some (.int l2), some (.int l3), some (.int l4), o5, o6] [] (n, sl, f) Q := by
  refine w_bipush (v := 9) cd_166_74 (by decide) ?_
  exact w_goto cd_166_76 (by decide) h7
theorem b_166_79 {d : Nat} {Q : (Option Value ⊕ Nat) → mi_H → Prop} (n sl : Nat) (f : Nat → mi_C) {l1 : Nat} {l2 : Int32} {l3 : Int32} {l4 : Int32} {o5 : Option Value} {o6 : Option Value} (h7 : mi_W d 166 80 [some (.ref l1), some (.int l2), some (.int l3), some (.int l4), o5, o6] [.int (-1)] (n, sl, f) Q) : mi_W d 166 79 [some (.ref l1), some (.int l2), some (.int l3), some (.int l4), o5, o6] [] (n, sl, f) Q := by
  refine w_iconst (v := (-1)) cd_166_79 (by decide) ?_
  exact h7
theorem b_166_80 {d : Nat} {Q : (Option Value ⊕ Nat) → mi_H → Prop} (n sl : Nat) (f : Nat → mi_C) {l1 : Nat} {l2 : Int32} {l3 : Int32} {l4 : Int32} {o5 : Option Value} {o6 : Option Value} {s7 : Int32} (h8 : s7 < (0 : Int32) → mi_W d 166 96 [some (.ref l1), some (.int l2), some (.int l3), some (.int l4), some (.int s7), o6] [] (n, sl, f) Q) (h9 : ¬ (s7 < (0 : Int32)) → mi_W d 166 87 [some (.ref l1), some (.int l2), some (.int l3), some (.int l4), some (.int s7), o6] [] (n, sl, f) Q) : mi_W d 166 80 [some (.ref l1), some (.int l2), some (.int l3), some (.int l4), o5, o6] [.int s7] (n, sl, f) Q := by
  refine w_istore (ls' := [some (.ref l1), some (.int l2), some (.int l3), some (.int l4), some (.int s7), o6]) cd_166_80 (Nat.le_of_ble_eq_true rfl) rfl ?_
  refine w_iload cd_166_82 rfl ?_
  exact w_iflt cd_166_84 (by decide) h8 h9
theorem b_166_87 {d : Nat} {Q : (Option Value ⊕ Nat) → mi_H → Prop} (n sl : Nat) (f : Nat → mi_C) {l1 : Nat} {l2 : Int32} {l3 : Int32} {l4 : Int32} {l5 : Int32} {o6 : Option Value} (h7 : ¬ l4 = 8 → mi_W d 166 105 [some (.ref l1), some (.int l2), some (.int l3), some (.int (l4 + 1)), some (.int l5), o6] [] (n, sl, f) Q) (h8 : ¬ (¬ l4 = 8) → mi_W d 166 96 [some (.ref l1), some (.int l2), some (.int l3), some (.int (l4 + 1)), some (.int l5), o6] [] (n, sl, f) Q) : mi_W d 166 87 [some (.ref l1), some (.int l2), some (.int l3), some (.int l4), some (.int l5), o6] [] (n, sl, f) Q := by
  refine w_iload_n cd_166_87 rfl ?_
  refine w_iinc (v := 1) (ls' := [some (.ref l1), some (.int l2), some (.int l3), some (.int (l4 + 1)), some (.int l5), o6]) cd_166_88 rfl (by decide) rfl ?_
  refine w_bipush (v := 8) cd_166_91 (by decide) ?_
  exact w_if_icmpne cd_166_93 (by decide) h7 h8
theorem b_166_96 {d : Nat} {Q : (Option Value ⊕ Nat) → mi_H → Prop} (n sl : Nat) (f : Nat → mi_C) {l1 : Nat} {l2 : Int32} {l3 : Int32} {l4 : Int32} {l5 : Int32} {o6 : Option Value} {fs7 : List Value} {x10 : Int32} {fs12 : List Value} (h8 : f l1 = .inr (12, fs7)) (h9 : l1 < n) (h11 : fs7[9]? = some (.int x10)) (h13 : f l1 = .inr (12, fs12)) (h14 : l1 < n) (h15 : mi_W d 141 0 (mi_en 2 [.ref l1, .int x10]) [] (n, sl, f) (mi_Kc d 166 101 [some (.ref l1), some (.int l2), some (.int l3), some (.int l4), some (.int l5), o6] [] Q)) : mi_W (d + 1) 166 96 [some (.ref l1), some (.int l2), some (.int l3), some (.int l4), some (.int l5), o6] [] (n, sl, f) Q := by
  refine w_aload_n cd_166_96 rfl ?_
  refine w_aload_n cd_166_97 rfl ?_
  refine w_getfield cd_166_98 (show mt_f 12 299 = some (12, 9) by decide +kernel) h8 h9 h11 ?_
  exact w_invokevirtual cd_166_101 (show mt_m 12 272 = some (141, 0) by decide +kernel) (rest := []) rfl (as := [.ref l1, .int x10]) rfl h13 (Or.inl h14) ⟨Nat.le_of_ble_eq_true rfl, Nat.le_of_ble_eq_true rfl, Nat.le_of_ble_eq_true rfl⟩ h15
theorem b_166_104 {d : Nat} {Q : (Option Value ⊕ Nat) → mi_H → Prop} (n sl : Nat) (f : Nat → mi_C) {l1 : Nat} {l2 : Int32} {l3 : Int32} {l4 : Int32} {l5 : Int32} {o6 : Option Value} {s7 : Int32} (h8 : s7 = 0 ∨ s7 = 1) (h9 : Q (.inl (some (.int s7))) (n, sl, f)) : mi_W d 166 104 [some (.ref l1), some (.int l2), some (.int l3), some (.int l4), some (.int l5), o6] [.int s7] (n, sl, f) Q := by
  exact w_ireturn_z cd_166_104 (by decide +kernel) h8 h9
theorem b_166_105 {d : Nat} {Q : (Option Value ⊕ Nat) → mi_H → Prop} (n sl : Nat) (f : Nat → mi_C) {l1 : Nat} {l2 : Int32} {l3 : Int32} {l4 : Int32} {l5 : Int32} {o6 : Option Value} {fs7 : List Value} (h8 : f l1 = .inr (12, fs7)) (h9 : l1 < n) (h10 : mi_W d 155 0 (mi_en 2 [.ref l1, .int l5]) [] (n, sl, f) (mi_Kc d 166 108 [some (.ref l1), some (.int l2), some (.int l3), some (.int l4), some (.int l5), o6] [] Q)) : mi_W (d + 1) 166 105 [some (.ref l1), some (.int l2), some (.int l3), some (.int l4), some (.int l5), o6] [] (n, sl, f) Q := by
  refine w_aload_n cd_166_105 rfl ?_
  refine w_iload cd_166_106 rfl ?_
  exact w_invokevirtual cd_166_108 (show mt_m 12 390 = some (155, 0) by decide +kernel) (rest := []) rfl (as := [.ref l1, .int l5]) rfl h8 (Or.inl h9) ⟨Nat.le_of_ble_eq_true rfl, Nat.le_of_ble_eq_true rfl, Nat.le_of_ble_eq_true rfl⟩ h10
theorem b_166_111 {d : Nat} {Q : (Option Value ⊕ Nat) → mi_H → Prop} (n sl : Nat) (f : Nat → mi_C) {l1 : Nat} {l2 : Int32} {l3 : Int32} {l4 : Int32} {l5 : Int32} {o6 : Option Value} {s7 : Int32} (h8 : s7 < (0 : Int32) → mi_W d 166 149 [some (.ref l1), some (.int l2), some (.int l3), some (.int l4), some (.int l5), some (.int s7)] [] (n, sl, f) Q) (h9 : ¬ (s7 < (0 : Int32)) → mi_W d 166 118 [some (.ref l1), some (.int l2), some (.int l3), some (.int l4), some (.int l5), some (.int s7)] [] (n, sl, f) Q) : mi_W d 166 111 [some (.ref l1), some (.int l2), some (.int l3), some (.int l4), some (.int l5), o6] [.int s7] (n, sl, f) Q := by
  refine w_istore (ls' := [some (.ref l1), some (.int l2), some (.int l3), some (.int l4), some (.int l5), some (.int s7)]) cd_166_111 (Nat.le_of_ble_eq_true rfl) rfl ?_
  refine w_iload cd_166_113 rfl ?_
  exact w_iflt cd_166_115 (by decide) h8 h9
theorem b_166_118 {d : Nat} {Q : (Option Value ⊕ Nat) → mi_H → Prop} (n sl : Nat) (f : Nat → mi_C) {l1 : Nat} {l2 : Int32} {l3 : Int32} {l4 : Int32} {l5 : Int32} {l6 : Int32} {fs7 : List Value} (h8 : f l1 = .inr (12, fs7)) (h9 : l1 < n) (h10 : mi_W d 143 0 (mi_en 4 [.ref l1]) [] (n, sl, f) (mi_Kc d 166 119 [some (.ref l1), some (.int l2), some (.int l3), some (.int l4), some (.int l5), some (.int l6)] [] Q)) : mi_W (d + 1) 166 118 [some (.ref l1), some (.int l2), some (.int l3), some (.int l4), some (.int l5), some (.int l6)] [] (n, sl, f) Q := by
  refine w_aload_n cd_166_118 rfl ?_
  exact w_invokevirtual cd_166_119 (show mt_m 12 333 = some (143, 0) by decide +kernel) (rest := []) rfl (as := [.ref l1]) rfl h8 (Or.inl h9) ⟨Nat.le_of_ble_eq_true rfl, Nat.le_of_ble_eq_true rfl, Nat.le_of_ble_eq_true rfl⟩ h10
theorem b_166_122 {d : Nat} {Q : (Option Value ⊕ Nat) → mi_H → Prop} (n sl : Nat) (f : Nat → mi_C) {l1 : Nat} {l2 : Int32} {l3 : Int32} {l4 : Int32} {l5 : Int32} {l6 : Int32} {s7 : Int32} (h8 : s7 = (0 : Int32) → mi_W d 166 149 [some (.ref l1), some (.int l2), some (.int l3), some (.int l4), some (.int l5), some (.int l6)] [] (n, sl, f) Q) (h9 : ¬ (s7 = (0 : Int32)) → mi_W d 166 125 [some (.ref l1), some (.int l2), some (.int l3), some (.int l4), some (.int l5), some (.int l6)] [] (n, sl, f) Q) : mi_W d 166 122 [some (.ref l1), some (.int l2), some (.int l3), some (.int l4), some (.int l5), some (.int l6)] [.int s7] (n, sl, f) Q := by
  exact w_ifeq cd_166_122 (by decide) h8 h9
theorem b_166_125 {d : Nat} {Q : (Option Value ⊕ Nat) → mi_H → Prop} (n sl : Nat) (f : Nat → mi_C) {l1 : Nat} {l2 : Int32} {l3 : Int32} {l4 : Int32} {l5 : Int32} {l6 : Int32} {fs7 : List Value} (h8 : f l1 = .inr (12, fs7)) (h9 : l1 < n) (h10 : mi_W d 167 0 (mi_en 4 [.ref l1, .int l6]) [] (n, sl, f) (mi_Kc d 166 128 [some (.ref l1), some (.int l2), some (.int l3), some (.int l4), some (.int l5), some (.int l6)] [] Q)) : mi_W (d + 1) 166 125 [some (.ref l1), some (.int l2), some (.int l3), some (.int l4), some (.int l5), some (.int l6)] [] (n, sl, f) Q := by
  refine w_aload_n cd_166_125 rfl ?_
  refine w_iload cd_166_126 rfl ?_
  exact w_invokevirtual cd_166_128 (show mt_m 12 413 = some (167, 0) by decide +kernel) (rest := []) rfl (as := [.ref l1, .int l6]) rfl h8 (Or.inl h9) ⟨Nat.le_of_ble_eq_true rfl, Nat.le_of_ble_eq_true rfl, Nat.le_of_ble_eq_true rfl⟩ h10
theorem b_166_131 {d : Nat} {Q : (Option Value ⊕ Nat) → mi_H → Prop} (n sl : Nat) (f : Nat → mi_C) {l1 : Nat} {l2 : Int32} {l3 : Int32} {l4 : Int32} {l5 : Int32} {l6 : Int32} {s7 : Int32} (h8 : s7 = (0 : Int32) → mi_W d 166 149 [some (.ref l1), some (.int l2), some (.int l3), some (.int l4), some (.int l5), some (.int l6)] [] (n, sl, f) Q) (h9 : ¬ (s7 = (0 : Int32)) → mi_W d 166 134 [some (.ref l1), some (.int l2), some (.int l3), some (.int l4), some (.int l5), some (.int l6)] [] (n, sl, f) Q) : mi_W d 166 131 [some (.ref l1), some (.int l2), some (.int l3), some (.int l4), some (.int l5), some (.int l6)] [.int s7] (n, sl, f) Q := by
  exact w_ifeq cd_166_131 (by decide) h8 h9
theorem b_166_134 {d : Nat} {Q : (Option Value ⊕ Nat) → mi_H → Prop} (n sl : Nat) (f : Nat → mi_C) {l1 : Nat} {l2 : Int32} {l3 : Int32} {l4 : Int32} {l5 : Int32} {l6 : Int32} {fs7 : List Value} {x10 : Nat} {fs12 : List Value} (h8 : f l1 = .inr (12, fs7)) (h9 : l1 < n) (h11 : fs7[19]? = some (.ref x10)) (h13 : f l1 = .inr (12, fs12)) (h14 : l1 < n) (h15 : mi_W d 150 0 (mi_en 4 [.ref l1]) [] (n, sl, f) (mi_Kc d 166 141 [some (.ref l1), some (.int l2), some (.int l3), some (.int l4), some (.int l5), some (.int l6)] [.int l6, .ref x10] Q)) : mi_W (d + 1) 166 134 [some (.ref l1), some (.int l2), some (.int l3), some (.int l4), some (.int l5), some (.int l6)] [] (n, sl, f) Q := by
  refine w_aload_n cd_166_134 rfl ?_
  refine w_getfield cd_166_135 (show mt_f 12 98 = some (12, 19) by decide +kernel) h8 h9 h11 ?_
  refine w_iload cd_166_138 rfl ?_
  refine w_aload_n cd_166_140 rfl ?_
  exact w_invokevirtual cd_166_141 (show mt_m 12 355 = some (150, 0) by decide +kernel) (rest := [.int l6, .ref x10]) rfl (as := [.ref l1]) rfl h13 (Or.inl h14) ⟨Nat.le_of_ble_eq_true rfl, Nat.le_of_ble_eq_true rfl, Nat.le_of_ble_eq_true rfl⟩ h15
theorem b_166_144 {d : Nat} {Q : (Option Value ⊕ Nat) → mi_H → Prop} (n sl : Nat) (f : Nat → mi_C) {l1 : Nat} {l2 : Int32} {l3 : Int32} {l4 : Int32} {l5 : Int32} {l6 : Int32} {s7 : Int32} {s8 : Int32} {s9 : Nat} (m10 i10 : Nat) (g10 : Nat → Int32) (h11 : f s9 = .inl (0, m10, .inl g10)) (h12 : s9 < n) (h13 : mi_ix s8 m10 i10) (h14 : (0 : Int32) ≤ s7 → mi_W d 166 151 [some (.ref l1), some (.int l2), some (.int l3), some (.int l4), some (.int l5), some (.int l6)] [] (n, sl, (va_up f s9 (.inl (0, m10, .inl (upd g10 i10 s7))))) Q) (h15 : ¬ ((0 : Int32) ≤ s7) → mi_W d 166 149 [some (.ref l1), some (.int l2), some (.int l3), some (.int l4), some (.int l5), some (.int l6)] [] (n, sl, (va_up f s9 (.inl (0, m10, .inl (upd g10 i10 s7))))) Q) : mi_W d 166 144 [some (.ref l1), some (.int l2), some (.int l3), some (.int l4), some (.int l5), some (.int l6)] [.int s7, .int s8, .ref s9] (n, sl, f) Q := by
  refine w_dup_x2_iir cd_166_144 ?_
  refine w_iastore cd_166_145 h11 h12 h13 ?_
  exact w_ifge cd_166_146 (by decide) h14 h15
theorem b_166_149 {d : Nat} {Q : (Option Value ⊕ Nat) → mi_H → Prop} (n sl : Nat) (f : Nat → mi_C) {l1 : Nat} {l2 : Int32} {l3 : Int32} {l4 : Int32} {l5 : Int32} {l6 : Int32} (h7 : Q (.inl (some (.int 0))) (n, sl, f)) : mi_W d 166 149 [some (.ref l1), some (.int l2), some (.int l3), some (.int l4), some (.int l5), some (.int l6)] [] (n, sl, f) Q := by
  refine w_iconst (v := 0) cd_166_149 (by decide) ?_
  exact w_ireturn_z cd_166_150 (by decide +kernel) (by decide) h7
theorem b_166_151 {d : Nat} {Q : (Option Value ⊕ Nat) → mi_H → Prop} (n sl : Nat) (f : Nat → mi_C) {l1 : Nat} {l2 : Int32} {l3 : Int32} {l4 : Int32} {l5 : Int32} {l6 : Int32} (h7 : (0 : Int32) ≤ l3 → mi_W d 166 166 [some (.ref l1), some (.int l2), some (.int l3), some (.int l4), some (.int l5), some (.int l6)] [] (n, sl, f) Q) (h8 : ¬ ((0 : Int32) ≤ l3) → mi_W d 166 155 [some (.ref l1), some (.int l2), some (.int l3), some (.int l4), some (.int l5), some (.int l6)] [] (n, sl, f) Q) : mi_W d 166 151 [some (.ref l1), some (.int l2), some (.int l3), some (.int l4), some (.int l5), some (.int l6)] [] (n, sl, f) Q := by
  refine w_iload_n cd_166_151 rfl ?_
  exact w_ifge cd_166_152 (by decide) h7 h8
theorem b_166_155 {d : Nat} {Q : (Option Value ⊕ Nat) → mi_H → Prop} (n sl : Nat) (f : Nat → mi_C) {l1 : Nat} {l2 : Int32} {l3 : Int32} {l4 : Int32} {l5 : Int32} {l6 : Int32} {fs7 : List Value} {x10 : Nat} (m12 i12 : Nat) (g12 : Nat → Int32) (h8 : f l1 = .inr (12, fs7)) (h9 : l1 < n) (h11 : fs7[17]? = some (.ref x10)) (h13 : f x10 = .inl (0, m12, .inl g12)) (h14 : x10 < n) (h15 : mi_ix l2 m12 i12) (h16 : mi_W d 166 174 [some (.ref l1), some (.int l2), some (.int l3), some (.int l4), some (.int l5), some (.int l6)] [] (n, sl, (va_up f x10 (.inl (0, m12, .inl (upd g12 i12 l6))))) Q) : mi_W d 166 155 [some (.ref l1), some (.int l2), some (.int l3), some (.int l4), some (.int l5), some (.int l6)] [] (n, sl, f) Q := by
  refine w_aload_n cd_166_155 rfl ?_
  refine w_getfield cd_166_156 (show mt_f 12 92 = some (12, 17) by decide +kernel) h8 h9 h11 ?_
  refine w_iload_n cd_166_159 rfl ?_
  refine w_iload cd_166_160 rfl ?_
  refine w_iastore cd_166_162 h13 h14 h15 ?_
  exact w_goto cd_166_163 (by decide) h16
theorem b_166_166 {d : Nat} {Q : (Option Value ⊕ Nat) → mi_H → Prop} (n sl : Nat) (f : Nat → mi_C) {l1 : Nat} {l2 : Int32} {l3 : Int32} {l4 : Int32} {l5 : Int32} {l6 : Int32} {fs7 : List Value} {x10 : Nat} (m12 i12 : Nat) (g12 : Nat → Int32) (h8 : f l1 = .inr (12, fs7)) (h9 : l1 < n) (h11 : fs7[39]? = some (.ref x10)) (h13 : f x10 = .inl (0, m12, .inl g12)) (h14 : x10 < n) (h15 : mi_ix l3 m12 i12) (h16 : mi_W d 166 174 [some (.ref l1), some (.int l2), some (.int l3), some (.int l4), some (.int l5), some (.int l6)] [] (n, sl, (va_up f x10 (.inl (0, m12, .inl (upd g12 i12 l6))))) Q) : mi_W d 166 166 [some (.ref l1), some (.int l2), some (.int l3), some (.int l4), some (.int l5), some (.int l6)] [] (n, sl, f) Q := by
  refine w_aload_n cd_166_166 rfl ?_
  refine w_getfield cd_166_167 (show mt_f 12 138 = some (12, 39) by decide +kernel) h8 h9 h11 ?_
  refine w_iload_n cd_166_170 rfl ?_
  refine w_iload cd_166_171 rfl ?_
  refine w_iastore cd_166_173 h13 h14 h15 ?_
  exact h16
theorem b_166_174 {d : Nat} {Q : (Option Value ⊕ Nat) → mi_H → Prop} (n sl : Nat) (f : Nat → mi_C) {l1 : Nat} {l2 : Int32} {l3 : Int32} {l4 : Int32} {l5 : Int32} {l6 : Int32} {fs7 : List Value} {x10 : Nat} (m12 i12 : Nat) (g12 : Nat → Int32) (h8 : f l1 = .inr (12, fs7)) (h9 : l1 < n) (h11 : fs7[39]? = some (.ref x10)) (h13 : f x10 = .inl (0, m12, .inl g12)) (h14 : x10 < n) (h15 : mi_ix l6 m12 i12) (h16 : mi_W d 166 27 [some (.ref l1), some (.int l2), some (.int l6), some (.int l4), some (.int l5), some (.int l6)] [] (n, sl, (va_up f x10 (.inl (0, m12, .inl (upd g12 i12 ((-1))))))) Q) : mi_W d 166 174 [some (.ref l1), some (.int l2), some (.int l3), some (.int l4), some (.int l5), some (.int l6)] [] (n, sl, f) Q := by
  refine w_aload_n cd_166_174 rfl ?_
  refine w_getfield cd_166_175 (show mt_f 12 138 = some (12, 39) by decide +kernel) h8 h9 h11 ?_
  refine w_iload cd_166_178 rfl ?_
  refine w_iconst (v := (-1)) cd_166_180 (by decide) ?_
  refine w_iastore cd_166_181 h13 h14 h15 ?_
  refine w_iload cd_166_182 rfl ?_
  refine w_istore_n (ls' := [some (.ref l1), some (.int l2), some (.int l6), some (.int l4), some (.int l5), some (.int l6)]) cd_166_184 (Nat.le_of_ble_eq_true rfl) rfl ?_
  exact w_goto cd_166_185 (by decide) h16
theorem b_166_188 {d : Nat} {Q : (Option Value ⊕ Nat) → mi_H → Prop} (n sl : Nat) (f : Nat → mi_C) {l1 : Nat} {l2 : Int32} {l3 : Int32} {l4 : Int32} {o5 : Option Value} {o6 : Option Value} {fs7 : List Value} (h8 : f l1 = .inr (12, fs7)) (h9 : l1 < n) (h10 : mi_W d 143 0 (mi_en 4 [.ref l1]) [] (n, sl, f) (mi_Kc d 166 189 [some (.ref l1), some (.int l2), some (.int l3), some (.int l4), o5, o6] [] Q)) : mi_W (d + 1) 166 188 [some (.ref l1), some (.int l2), some (.int l3), some (.int l4), o5, o6] [] (n, sl, f) Q := by
  refine w_aload_n cd_166_188 rfl ?_
  exact w_invokevirtual cd_166_189 (show mt_m 12 333 = some (143, 0) by decide +kernel) (rest := []) rfl (as := [.ref l1]) rfl h8 (Or.inl h9) ⟨Nat.le_of_ble_eq_true rfl, Nat.le_of_ble_eq_true rfl, Nat.le_of_ble_eq_true rfl⟩ h10
theorem b_166_192 {d : Nat} {Q : (Option Value ⊕ Nat) → mi_H → Prop} (n sl : Nat) (f : Nat → mi_C) {l1 : Nat} {l2 : Int32} {l3 : Int32} {l4 : Int32} {o5 : Option Value} {o6 : Option Value} {s7 : Int32} (h8 : ¬ s7 = (0 : Int32) → mi_W d 166 197 [some (.ref l1), some (.int l2), some (.int l3), some (.int l4), o5, o6] [] (n, sl, f) Q) (h9 : ¬ (¬ s7 = (0 : Int32)) → mi_W d 166 195 [some (.ref l1), some (.int l2), some (.int l3), some (.int l4), o5, o6] [] (n, sl, f) Q) : mi_W d 166 192 [some (.ref l1), some (.int l2), some (.int l3), some (.int l4), o5, o6] [.int s7] (n, sl, f) Q := by
  exact w_ifne cd_166_192 (by decide) h8 h9
theorem b_166_195 {d : Nat} {Q : (Option Value ⊕ Nat) → mi_H → Prop} (n sl : Nat) (f : Nat → mi_C) {l1 : Nat} {l2 : Int32} {l3 : Int32} {l4 : Int32} {o5 : Option Value} {o6 : Option Value} (h7 : Q (.inl (some (.int 0))) (n, sl, f)) : mi_W d 166 195 [some (.ref l1), some (.int l2), some (.int l3), some (.int l4), o5, o6] [] (n, sl, f) Q := by
  refine w_iconst (v := 0) cd_166_195 (by decide) ?_
  exact w_ireturn_z cd_166_196 (by decide +kernel) (by decide) h7
theorem b_166_197 {d : Nat} {Q : (Option Value ⊕ Nat) → mi_H → Prop} (n sl : Nat) (f : Nat → mi_C) {l1 : Nat} {l2 : Int32} {l3 : Int32} {l4 : Int32} {o5 : Option Value} {o6 : Option Value} {fs7 : List Value} {x10 : Int32} (h8 : f l1 = .inr (12, fs7)) (h9 : l1 < n) (h11 : fs7[8]? = some (.int x10)) (h12 : x10 = 2 → mi_W d 166 214 [some (.ref l1), some (.int l2), some (.int l3), some (.int l4), o5, o6] [] (n, sl, f) Q) (h13 : ¬ (x10 = 2) → mi_W d 166 205 [some (.ref l1), some (.int l2), some (.int l3), some (.int l4), o5, o6] [] (n, sl, f) Q) : mi_W d 166 197 [some (.ref l1), some (.int l2), some (.int l3), some (.int l4), o5, o6] [] (n, sl, f) Q := by
  refine w_aload_n cd_166_197 rfl ?_
  refine w_getfield cd_166_198 (show mt_f 12 310 = some (12, 8) by decide +kernel) h8 h9 h11 ?_
  refine w_iconst (v := 2) cd_166_201 (by decide) ?_
  exact w_if_icmpeq cd_166_202 (by decide) h12 h13
theorem b_166_205 {d : Nat} {Q : (Option Value ⊕ Nat) → mi_H → Prop} (n sl : Nat) (f : Nat → mi_C) {l1 : Nat} {l2 : Int32} {l3 : Int32} {l4 : Int32} {o5 : Option Value} {o6 : Option Value} {fs7 : List Value} {x10 : Int32} {fs12 : List Value} (h8 : f l1 = .inr (12, fs7)) (h9 : l1 < n) (h11 : fs7[9]? = some (.int x10)) (h13 : f l1 = .inr (12, fs12)) (h14 : l1 < n) (h15 : mi_W d 141 0 (mi_en 2 [.ref l1, .int x10]) [] (n, sl, f) (mi_Kc d 166 210 [some (.ref l1), some (.int l2), some (.int l3), some (.int l4), o5, o6] [] Q)) : mi_W (d + 1) 166 205 [some (.ref l1), some (.int l2), some (.int l3), some (.int l4), o5, o6] [] (n, sl, f) Q := by
  refine w_aload_n cd_166_205 rfl ?_
  refine w_aload_n cd_166_206 rfl ?_
  refine w_getfield cd_166_207 (show mt_f 12 299 = some (12, 9) by decide +kernel) h8 h9 h11 ?_
  exact w_invokevirtual cd_166_210 (show mt_m 12 272 = some (141, 0) by decide +kernel) (rest := []) rfl (as := [.ref l1, .int x10]) rfl h13 (Or.inl h14) ⟨Nat.le_of_ble_eq_true rfl, Nat.le_of_ble_eq_true rfl, Nat.le_of_ble_eq_true rfl⟩ h15
theorem b_166_213 {d : Nat} {Q : (Option Value ⊕ Nat) → mi_H → Prop} (n sl : Nat) (f : Nat → mi_C) {l1 : Nat} {l2 : Int32} {l3 : Int32} {l4 : Int32} {o5 : Option Value} {o6 : Option Value} {s7 : Int32} (h8 : s7 = 0 ∨ s7 = 1) (h9 : Q (.inl (some (.int s7))) (n, sl, f)) : mi_W d 166 213 [some (.ref l1), some (.int l2), some (.int l3), some (.int l4), o5, o6] [.int s7] (n, sl, f) Q := by
  exact w_ireturn_z cd_166_213 (by decide +kernel) h8 h9
theorem b_166_214 {d : Nat} {Q : (Option Value ⊕ Nat) → mi_H → Prop} (n sl : Nat) (f : Nat → mi_C) {l1 : Nat} {l2 : Int32} {l3 : Int32} {l4 : Int32} {o5 : Option Value} {o6 : Option Value} {fs7 : List Value} {x10 : Nat} {fs12 : List Value} {x15 : Int64} (m17 i17 : Nat) (g17 : Nat → Int64) {fs21 : List Value} (h8 : f l1 = .inr (12, fs7)) (h9 : l1 < n) (h11 : fs7[20]? = some (.ref x10)) (h13 : f l1 = .inr (12, fs12)) (h14 : l1 < n) (h16 : fs12[11]? = some (.long x15)) (h18 : f x10 = .inl (3, m17, .inr (.inl g17))) (h19 : x10 < n) (h20 : mi_ix l2 m17 i17) (h22 : (va_up f x10 (.inl (3, m17, .inr (.inl (vp_updL g17 i17 x15))))) l1 = .inr (12, fs21)) (h23 : l1 < n) (h24 : mi_W d 143 0 (mi_en 4 [.ref l1]) [] (n, sl, (va_up f x10 (.inl (3, m17, .inr (.inl (vp_updL g17 i17 x15)))))) (mi_Kc d 166 225 [some (.ref l1), some (.int l2), some (.int l3), some (.int l4), o5, o6] [] Q)) : mi_W (d + 1) 166 214 [some (.ref l1), some (.int l2), some (.int l3), some (.int l4), o5, o6] [] (n, sl, f) Q := by
  refine w_aload_n cd_166_214 rfl ?_
  refine w_getfield cd_166_215 (show mt_f 12 101 = some (12, 20) by decide +kernel) h8 h9 h11 ?_
  refine w_iload_n cd_166_218 rfl ?_
  refine w_aload_n cd_166_219 rfl ?_
  refine w_getfield cd_166_220 (show mt_f 12 327 = some (12, 11) by decide +kernel) h13 h14 h16 ?_
  refine w_lastore cd_166_223 h18 h19 h20 ?_
  refine w_aload_n cd_166_224 rfl ?_
  exact w_invokevirtual cd_166_225 (show mt_m 12 333 = some (143, 0) by decide +kernel) (rest := []) rfl (as := [.ref l1]) rfl h22 (Or.inl h23) ⟨Nat.le_of_ble_eq_true rfl, Nat.le_of_ble_eq_true rfl, Nat.le_of_ble_eq_true rfl⟩ h24
theorem b_166_228 {d : Nat} {Q : (Option Value ⊕ Nat) → mi_H → Prop} (n sl : Nat) (f : Nat → mi_C) {l1 : Nat} {l2 : Int32} {l3 : Int32} {l4 : Int32} {o5 : Option Value} {o6 : Option Value} {s7 : Int32} (h8 : s7 = (0 : Int32) → mi_W d 166 249 [some (.ref l1), some (.int l2), some (.int l3), some (.int l4), o5, o6] [] (n, sl, f) Q) (h9 : ¬ (s7 = (0 : Int32)) → mi_W d 166 231 [some (.ref l1), some (.int l2), some (.int l3), some (.int l4), o5, o6] [] (n, sl, f) Q) : mi_W d 166 228 [some (.ref l1), some (.int l2), some (.int l3), some (.int l4), o5, o6] [.int s7] (n, sl, f) Q := by
  exact w_ifeq cd_166_228 (by decide) h8 h9
theorem b_166_231 {d : Nat} {Q : (Option Value ⊕ Nat) → mi_H → Prop} (n sl : Nat) (f : Nat → mi_C) {l1 : Nat} {l2 : Int32} {l3 : Int32} {l4 : Int32} {o5 : Option Value} {o6 : Option Value} {fs7 : List Value} {x10 : Nat} {fs12 : List Value} (h8 : f l1 = .inr (12, fs7)) (h9 : l1 < n) (h11 : fs7[19]? = some (.ref x10)) (h13 : f l1 = .inr (12, fs12)) (h14 : l1 < n) (h15 : mi_W d 150 0 (mi_en 4 [.ref l1]) [] (n, sl, f) (mi_Kc d 166 237 [some (.ref l1), some (.int l2), some (.int l3), some (.int l4), o5, o6] [.int l2, .ref x10] Q)) : mi_W (d + 1) 166 231 [some (.ref l1), some (.int l2), some (.int l3), some (.int l4), o5, o6] [] (n, sl, f) Q := by
  refine w_aload_n cd_166_231 rfl ?_
  refine w_getfield cd_166_232 (show mt_f 12 98 = some (12, 19) by decide +kernel) h8 h9 h11 ?_
  refine w_iload_n cd_166_235 rfl ?_
  refine w_aload_n cd_166_236 rfl ?_
  exact w_invokevirtual cd_166_237 (show mt_m 12 355 = some (150, 0) by decide +kernel) (rest := [.int l2, .ref x10]) rfl (as := [.ref l1]) rfl h13 (Or.inl h14) ⟨Nat.le_of_ble_eq_true rfl, Nat.le_of_ble_eq_true rfl, Nat.le_of_ble_eq_true rfl⟩ h15
theorem b_166_240 {d : Nat} {Q : (Option Value ⊕ Nat) → mi_H → Prop} (n sl : Nat) (f : Nat → mi_C) {l1 : Nat} {l2 : Int32} {l3 : Int32} {l4 : Int32} {o5 : Option Value} {o6 : Option Value} {s7 : Int32} {s8 : Int32} {s9 : Nat} (m10 i10 : Nat) (g10 : Nat → Int32) (h11 : f s9 = .inl (0, m10, .inl g10)) (h12 : s9 < n) (h13 : mi_ix s8 m10 i10) (h14 : s7 < (0 : Int32) → mi_W d 166 249 [some (.ref l1), some (.int l2), some (.int l3), some (.int l4), o5, o6] [] (n, sl, (va_up f s9 (.inl (0, m10, .inl (upd g10 i10 s7))))) Q) (h15 : ¬ (s7 < (0 : Int32)) → mi_W d 166 245 [some (.ref l1), some (.int l2), some (.int l3), some (.int l4), o5, o6] [] (n, sl, (va_up f s9 (.inl (0, m10, .inl (upd g10 i10 s7))))) Q) : mi_W d 166 240 [some (.ref l1), some (.int l2), some (.int l3), some (.int l4), o5, o6] [.int s7, .int s8, .ref s9] (n, sl, f) Q := by
  refine w_dup_x2_iir cd_166_240 ?_
  refine w_iastore cd_166_241 h11 h12 h13 ?_
  exact w_iflt cd_166_242 (by decide) h14 h15
theorem b_166_245 {d : Nat} {Q : (Option Value ⊕ Nat) → mi_H → Prop} (n sl : Nat) (f : Nat → mi_C) {l1 : Nat} {l2 : Int32} {l3 : Int32} {l4 : Int32} {o5 : Option Value} {o6 : Option Value} (h7 : mi_W d 166 250 [some (.ref l1), some (.int l2), some (.int l3), some (.int l4), o5, o6] [.int 1] (n, sl, f) Q) : mi_W d 166 245 [some (.ref l1), some (.int l2), some (.int l3), some (.int l4), o5, o6] [] (n, sl, f) Q := by
  refine w_iconst (v := 1) cd_166_245 (by decide) ?_
  exact w_goto cd_166_246 (by decide) h7
theorem b_166_249 {d : Nat} {Q : (Option Value ⊕ Nat) → mi_H → Prop} (n sl : Nat) (f : Nat → mi_C) {l1 : Nat} {l2 : Int32} {l3 : Int32} {l4 : Int32} {o5 : Option Value} {o6 : Option Value} (h7 : mi_W d 166 250 [some (.ref l1), some (.int l2), some (.int l3), some (.int l4), o5, o6] [.int 0] (n, sl, f) Q) : mi_W d 166 249 [some (.ref l1), some (.int l2), some (.int l3), some (.int l4), o5, o6] [] (n, sl, f) Q := by
  refine w_iconst (v := 0) cd_166_249 (by decide) ?_
  exact h7
theorem b_166_250 {d : Nat} {Q : (Option Value ⊕ Nat) → mi_H → Prop} (n sl : Nat) (f : Nat → mi_C) {l1 : Nat} {l2 : Int32} {l3 : Int32} {l4 : Int32} {o5 : Option Value} {o6 : Option Value} {s7 : Int32} (h8 : s7 = 0 ∨ s7 = 1) (h9 : Q (.inl (some (.int s7))) (n, sl, f)) : mi_W d 166 250 [some (.ref l1), some (.int l2), some (.int l3), some (.int l4), o5, o6] [.int s7] (n, sl, f) Q := by
  exact w_ireturn_z cd_166_250 (by decide +kernel) h8 h9
/-! MarloweHostModel.action(I)Z -/
set_option maxRecDepth 100000 in
theorem mq_167 : mt_q 167 = my_167 := rfl
set_option maxRecDepth 100000 in
theorem ci_167 : mt_inc 0 my_167.cd = true := by decide +kernel
theorem cd_167_0 : mt_cd 167 0 = some (.aload_n 0) := mt_cd_of (q := (0, .aload_n 0, 1)) mq_167 ci_167 (List.mem_append_left _ (show _ ∈ my_167_0 from List.mem_of_getElem? (i := 0) rfl))
theorem cd_167_1 : mt_cd 167 1 = some (.getfield 77) := mt_cd_of (q := (1, .getfield 77, 3)) mq_167 ci_167 (List.mem_append_left _ (show _ ∈ my_167_0 from List.mem_of_getElem? (i := 1) rfl))
theorem cd_167_4 : mt_cd 167 4 = some (.iload_n 1) := mt_cd_of (q := (4, .iload_n 1, 1)) mq_167 ci_167 (List.mem_append_left _ (show _ ∈ my_167_0 from List.mem_of_getElem? (i := 2) rfl))
theorem cd_167_5 : mt_cd 167 5 = some (.iaload) := mt_cd_of (q := (5, .iaload, 1)) mq_167 ci_167 (List.mem_append_left _ (show _ ∈ my_167_0 from List.mem_of_getElem? (i := 3) rfl))
theorem cd_167_6 : mt_cd 167 6 = some (.bipush 7) := mt_cd_of (q := (6, .bipush 7, 2)) mq_167 ci_167 (List.mem_append_left _ (show _ ∈ my_167_0 from List.mem_of_getElem? (i := 4) rfl))
theorem cd_167_8 : mt_cd 167 8 = some (.if_icmp .ne 65) := mt_cd_of (q := (8, .if_icmp .ne 65, 3)) mq_167 ci_167 (List.mem_append_left _ (show _ ∈ my_167_0 from List.mem_of_getElem? (i := 5) rfl))
theorem cd_167_11 : mt_cd 167 11 = some (.aload_n 0) := mt_cd_of (q := (11, .aload_n 0, 1)) mq_167 ci_167 (List.mem_append_left _ (show _ ∈ my_167_0 from List.mem_of_getElem? (i := 6) rfl))
theorem cd_167_12 : mt_cd 167 12 = some (.getfield 80) := mt_cd_of (q := (12, .getfield 80, 3)) mq_167 ci_167 (List.mem_append_left _ (show _ ∈ my_167_0 from List.mem_of_getElem? (i := 7) rfl))
theorem cd_167_15 : mt_cd 167 15 = some (.iload_n 1) := mt_cd_of (q := (15, .iload_n 1, 1)) mq_167 ci_167 (List.mem_append_left _ (show _ ∈ my_167_0 from List.mem_of_getElem? (i := 8) rfl))
theorem cd_167_16 : mt_cd 167 16 = some (.aload_n 0) := mt_cd_of (q := (16, .aload_n 0, 1)) mq_167 ci_167 (List.mem_append_left _ (show _ ∈ my_167_0 from List.mem_of_getElem? (i := 9) rfl))
theorem cd_167_17 : mt_cd 167 17 = some (.invokevirtual 370) := mt_cd_of (q := (17, .invokevirtual 370, 3)) mq_167 ci_167 (List.mem_append_left _ (show _ ∈ my_167_0 from List.mem_of_getElem? (i := 10) rfl))
theorem cd_167_20 : mt_cd 167 20 = some (.dup_x2) := mt_cd_of (q := (20, .dup_x2, 1)) mq_167 ci_167 (List.mem_append_left _ (show _ ∈ my_167_0 from List.mem_of_getElem? (i := 11) rfl))
theorem cd_167_21 : mt_cd 167 21 = some (.iastore) := mt_cd_of (q := (21, .iastore, 1)) mq_167 ci_167 (List.mem_append_left _ (show _ ∈ my_167_0 from List.mem_of_getElem? (i := 12) rfl))
theorem cd_167_22 : mt_cd 167 22 = some (.ifCond .lt 49) := mt_cd_of (q := (22, .ifCond .lt 49, 3)) mq_167 ci_167 (List.mem_append_left _ (show _ ∈ my_167_0 from List.mem_of_getElem? (i := 13) rfl))
theorem cd_167_25 : mt_cd 167 25 = some (.aload_n 0) := mt_cd_of (q := (25, .aload_n 0, 1)) mq_167 ci_167 (List.mem_append_left _ (show _ ∈ my_167_0 from List.mem_of_getElem? (i := 14) rfl))
theorem cd_167_26 : mt_cd 167 26 = some (.getfield 83) := mt_cd_of (q := (26, .getfield 83, 3)) mq_167 ci_167 (List.mem_append_left _ (show _ ∈ my_167_0 from List.mem_of_getElem? (i := 15) rfl))
theorem cd_167_29 : mt_cd 167 29 = some (.iload_n 1) := mt_cd_of (q := (29, .iload_n 1, 1)) mq_167 ci_167 (List.mem_append_left _ (show _ ∈ my_167_0 from List.mem_of_getElem? (i := 16) rfl))
theorem cd_167_30 : mt_cd 167 30 = some (.aload_n 0) := mt_cd_of (q := (30, .aload_n 0, 1)) mq_167 ci_167 (List.mem_append_left _ (show _ ∈ my_167_0 from List.mem_of_getElem? (i := 17) rfl))
theorem cd_167_31 : mt_cd 167 31 = some (.invokevirtual 370) := mt_cd_of (q := (31, .invokevirtual 370, 3)) mq_167 ci_167 (List.mem_append_left _ (show _ ∈ my_167_0 from List.mem_of_getElem? (i := 18) rfl))
theorem cd_167_34 : mt_cd 167 34 = some (.dup_x2) := mt_cd_of (q := (34, .dup_x2, 1)) mq_167 ci_167 (List.mem_append_left _ (show _ ∈ my_167_0 from List.mem_of_getElem? (i := 19) rfl))
theorem cd_167_35 : mt_cd 167 35 = some (.iastore) := mt_cd_of (q := (35, .iastore, 1)) mq_167 ci_167 (List.mem_append_left _ (show _ ∈ my_167_0 from List.mem_of_getElem? (i := 20) rfl))
theorem cd_167_36 : mt_cd 167 36 = some (.ifCond .lt 35) := mt_cd_of (q := (36, .ifCond .lt 35, 3)) mq_167 ci_167 (List.mem_append_left _ (show _ ∈ my_167_0 from List.mem_of_getElem? (i := 21) rfl))
theorem cd_167_39 : mt_cd 167 39 = some (.aload_n 0) := mt_cd_of (q := (39, .aload_n 0, 1)) mq_167 ci_167 (List.mem_append_left _ (show _ ∈ my_167_0 from List.mem_of_getElem? (i := 22) rfl))
theorem cd_167_40 : mt_cd 167 40 = some (.getfield 86) := mt_cd_of (q := (40, .getfield 86, 3)) mq_167 ci_167 (List.mem_append_left _ (show _ ∈ my_167_0 from List.mem_of_getElem? (i := 23) rfl))
theorem cd_167_43 : mt_cd 167 43 = some (.iload_n 1) := mt_cd_of (q := (43, .iload_n 1, 1)) mq_167 ci_167 (List.mem_append_left _ (show _ ∈ my_167_0 from List.mem_of_getElem? (i := 24) rfl))
theorem cd_167_44 : mt_cd 167 44 = some (.aload_n 0) := mt_cd_of (q := (44, .aload_n 0, 1)) mq_167 ci_167 (List.mem_append_left _ (show _ ∈ my_167_0 from List.mem_of_getElem? (i := 25) rfl))
theorem cd_167_45 : mt_cd 167 45 = some (.invokevirtual 396) := mt_cd_of (q := (45, .invokevirtual 396, 3)) mq_167 ci_167 (List.mem_append_left _ (show _ ∈ my_167_0 from List.mem_of_getElem? (i := 26) rfl))
theorem cd_167_48 : mt_cd 167 48 = some (.dup_x2) := mt_cd_of (q := (48, .dup_x2, 1)) mq_167 ci_167 (List.mem_append_left _ (show _ ∈ my_167_0 from List.mem_of_getElem? (i := 27) rfl))
theorem cd_167_49 : mt_cd 167 49 = some (.iastore) := mt_cd_of (q := (49, .iastore, 1)) mq_167 ci_167 (List.mem_append_left _ (show _ ∈ my_167_0 from List.mem_of_getElem? (i := 28) rfl))
theorem cd_167_50 : mt_cd 167 50 = some (.ifCond .lt 21) := mt_cd_of (q := (50, .ifCond .lt 21, 3)) mq_167 ci_167 (List.mem_append_left _ (show _ ∈ my_167_0 from List.mem_of_getElem? (i := 29) rfl))
theorem cd_167_53 : mt_cd 167 53 = some (.aload_n 0) := mt_cd_of (q := (53, .aload_n 0, 1)) mq_167 ci_167 (List.mem_append_left _ (show _ ∈ my_167_0 from List.mem_of_getElem? (i := 30) rfl))
theorem cd_167_54 : mt_cd 167 54 = some (.getfield 89) := mt_cd_of (q := (54, .getfield 89, 3)) mq_167 ci_167 (List.mem_append_left _ (show _ ∈ my_167_0 from List.mem_of_getElem? (i := 31) rfl))
theorem cd_167_57 : mt_cd 167 57 = some (.iload_n 1) := mt_cd_of (q := (57, .iload_n 1, 1)) mq_167 ci_167 (List.mem_append_left _ (show _ ∈ my_167_0 from List.mem_of_getElem? (i := 32) rfl))
theorem cd_167_58 : mt_cd 167 58 = some (.aload_n 0) := mt_cd_of (q := (58, .aload_n 0, 1)) mq_167 ci_167 (List.mem_append_left _ (show _ ∈ my_167_0 from List.mem_of_getElem? (i := 33) rfl))
theorem cd_167_59 : mt_cd 167 59 = some (.invokevirtual 399) := mt_cd_of (q := (59, .invokevirtual 399, 3)) mq_167 ci_167 (List.mem_append_left _ (show _ ∈ my_167_0 from List.mem_of_getElem? (i := 34) rfl))
theorem cd_167_62 : mt_cd 167 62 = some (.dup_x2) := mt_cd_of (q := (62, .dup_x2, 1)) mq_167 ci_167 (List.mem_append_left _ (show _ ∈ my_167_0 from List.mem_of_getElem? (i := 35) rfl))
theorem cd_167_63 : mt_cd 167 63 = some (.iastore) := mt_cd_of (q := (63, .iastore, 1)) mq_167 ci_167 (List.mem_append_left _ (show _ ∈ my_167_0 from List.mem_of_getElem? (i := 36) rfl))
theorem cd_167_64 : mt_cd 167 64 = some (.ifCond .lt 7) := mt_cd_of (q := (64, .ifCond .lt 7, 3)) mq_167 ci_167 (List.mem_append_left _ (show _ ∈ my_167_0 from List.mem_of_getElem? (i := 37) rfl))
theorem cd_167_67 : mt_cd 167 67 = some (.iconst 1) := mt_cd_of (q := (67, .iconst 1, 1)) mq_167 ci_167 (List.mem_append_left _ (show _ ∈ my_167_0 from List.mem_of_getElem? (i := 38) rfl))
theorem cd_167_68 : mt_cd 167 68 = some (.goto 4) := mt_cd_of (q := (68, .goto 4, 3)) mq_167 ci_167 (List.mem_append_left _ (show _ ∈ my_167_0 from List.mem_of_getElem? (i := 39) rfl))
theorem cd_167_71 : mt_cd 167 71 = some (.iconst 0) := mt_cd_of (q := (71, .iconst 0, 1)) mq_167 ci_167 (List.mem_append_left _ (show _ ∈ my_167_0 from List.mem_of_getElem? (i := 40) rfl))
theorem cd_167_72 : mt_cd 167 72 = some (.ireturn) := mt_cd_of (q := (72, .ireturn, 1)) mq_167 ci_167 (List.mem_append_left _ (show _ ∈ my_167_0 from List.mem_of_getElem? (i := 41) rfl))
theorem cd_167_73 : mt_cd 167 73 = some (.aload_n 0) := mt_cd_of (q := (73, .aload_n 0, 1)) mq_167 ci_167 (List.mem_append_left _ (show _ ∈ my_167_0 from List.mem_of_getElem? (i := 42) rfl))
theorem cd_167_74 : mt_cd 167 74 = some (.getfield 77) := mt_cd_of (q := (74, .getfield 77, 3)) mq_167 ci_167 (List.mem_append_left _ (show _ ∈ my_167_0 from List.mem_of_getElem? (i := 43) rfl))
theorem cd_167_77 : mt_cd 167 77 = some (.iload_n 1) := mt_cd_of (q := (77, .iload_n 1, 1)) mq_167 ci_167 (List.mem_append_left _ (show _ ∈ my_167_0 from List.mem_of_getElem? (i := 44) rfl))
theorem cd_167_78 : mt_cd 167 78 = some (.iaload) := mt_cd_of (q := (78, .iaload, 1)) mq_167 ci_167 (List.mem_append_left _ (show _ ∈ my_167_0 from List.mem_of_getElem? (i := 45) rfl))
theorem cd_167_79 : mt_cd 167 79 = some (.bipush 9) := mt_cd_of (q := (79, .bipush 9, 2)) mq_167 ci_167 (List.mem_append_left _ (show _ ∈ my_167_0 from List.mem_of_getElem? (i := 46) rfl))
theorem cd_167_81 : mt_cd 167 81 = some (.if_icmp .ne 23) := mt_cd_of (q := (81, .if_icmp .ne 23, 3)) mq_167 ci_167 (List.mem_append_left _ (show _ ∈ my_167_0 from List.mem_of_getElem? (i := 47) rfl))
theorem cd_167_84 : mt_cd 167 84 = some (.aload_n 0) := mt_cd_of (q := (84, .aload_n 0, 1)) mq_167 ci_167 (List.mem_append_left _ (show _ ∈ my_167_0 from List.mem_of_getElem? (i := 48) rfl))
theorem cd_167_85 : mt_cd 167 85 = some (.getfield 89) := mt_cd_of (q := (85, .getfield 89, 3)) mq_167 ci_167 (List.mem_append_left _ (show _ ∈ my_167_0 from List.mem_of_getElem? (i := 49) rfl))
theorem cd_167_88 : mt_cd 167 88 = some (.iload_n 1) := mt_cd_of (q := (88, .iload_n 1, 1)) mq_167 ci_167 (List.mem_append_left _ (show _ ∈ my_167_0 from List.mem_of_getElem? (i := 50) rfl))
theorem cd_167_89 : mt_cd 167 89 = some (.aload_n 0) := mt_cd_of (q := (89, .aload_n 0, 1)) mq_167 ci_167 (List.mem_append_left _ (show _ ∈ my_167_0 from List.mem_of_getElem? (i := 51) rfl))
theorem cd_167_90 : mt_cd 167 90 = some (.invokevirtual 401) := mt_cd_of (q := (90, .invokevirtual 401, 3)) mq_167 ci_167 (List.mem_append_left _ (show _ ∈ my_167_0 from List.mem_of_getElem? (i := 52) rfl))
theorem cd_167_93 : mt_cd 167 93 = some (.dup_x2) := mt_cd_of (q := (93, .dup_x2, 1)) mq_167 ci_167 (List.mem_append_left _ (show _ ∈ my_167_0 from List.mem_of_getElem? (i := 53) rfl))
theorem cd_167_94 : mt_cd 167 94 = some (.iastore) := mt_cd_of (q := (94, .iastore, 1)) mq_167 ci_167 (List.mem_append_left _ (show _ ∈ my_167_0 from List.mem_of_getElem? (i := 54) rfl))
theorem cd_167_95 : mt_cd 167 95 = some (.ifCond .lt 7) := mt_cd_of (q := (95, .ifCond .lt 7, 3)) mq_167 ci_167 (List.mem_append_left _ (show _ ∈ my_167_0 from List.mem_of_getElem? (i := 55) rfl))
theorem cd_167_98 : mt_cd 167 98 = some (.iconst 1) := mt_cd_of (q := (98, .iconst 1, 1)) mq_167 ci_167 (List.mem_append_left _ (show _ ∈ my_167_0 from List.mem_of_getElem? (i := 56) rfl))
theorem cd_167_99 : mt_cd 167 99 = some (.goto 4) := mt_cd_of (q := (99, .goto 4, 3)) mq_167 ci_167 (List.mem_append_left _ (show _ ∈ my_167_0 from List.mem_of_getElem? (i := 57) rfl))
theorem cd_167_102 : mt_cd 167 102 = some (.iconst 0) := mt_cd_of (q := (102, .iconst 0, 1)) mq_167 ci_167 (List.mem_append_left _ (show _ ∈ my_167_0 from List.mem_of_getElem? (i := 58) rfl))
theorem cd_167_103 : mt_cd 167 103 = some (.ireturn) := mt_cd_of (q := (103, .ireturn, 1)) mq_167 ci_167 (List.mem_append_left _ (show _ ∈ my_167_0 from List.mem_of_getElem? (i := 59) rfl))
theorem cd_167_104 : mt_cd 167 104 = some (.aload_n 0) := mt_cd_of (q := (104, .aload_n 0, 1)) mq_167 ci_167 (List.mem_append_right _ (List.mem_append_left _ (show _ ∈ my_167_1 from List.mem_of_getElem? (i := 0) rfl)))
theorem cd_167_105 : mt_cd 167 105 = some (.getfield 80) := mt_cd_of (q := (105, .getfield 80, 3)) mq_167 ci_167 (List.mem_append_right _ (List.mem_append_left _ (show _ ∈ my_167_1 from List.mem_of_getElem? (i := 1) rfl)))
theorem cd_167_108 : mt_cd 167 108 = some (.iload_n 1) := mt_cd_of (q := (108, .iload_n 1, 1)) mq_167 ci_167 (List.mem_append_right _ (List.mem_append_left _ (show _ ∈ my_167_1 from List.mem_of_getElem? (i := 2) rfl)))
theorem cd_167_109 : mt_cd 167 109 = some (.aload_n 0) := mt_cd_of (q := (109, .aload_n 0, 1)) mq_167 ci_167 (List.mem_append_right _ (List.mem_append_left _ (show _ ∈ my_167_1 from List.mem_of_getElem? (i := 3) rfl)))
theorem cd_167_110 : mt_cd 167 110 = some (.invokevirtual 416) := mt_cd_of (q := (110, .invokevirtual 416, 3)) mq_167 ci_167 (List.mem_append_right _ (List.mem_append_left _ (show _ ∈ my_167_1 from List.mem_of_getElem? (i := 4) rfl)))
theorem cd_167_113 : mt_cd 167 113 = some (.dup_x2) := mt_cd_of (q := (113, .dup_x2, 1)) mq_167 ci_167 (List.mem_append_right _ (List.mem_append_left _ (show _ ∈ my_167_1 from List.mem_of_getElem? (i := 5) rfl)))
theorem cd_167_114 : mt_cd 167 114 = some (.iastore) := mt_cd_of (q := (114, .iastore, 1)) mq_167 ci_167 (List.mem_append_right _ (List.mem_append_left _ (show _ ∈ my_167_1 from List.mem_of_getElem? (i := 6) rfl)))
theorem cd_167_115 : mt_cd 167 115 = some (.ifCond .lt 17) := mt_cd_of (q := (115, .ifCond .lt 17, 3)) mq_167 ci_167 (List.mem_append_right _ (List.mem_append_left _ (show _ ∈ my_167_1 from List.mem_of_getElem? (i := 7) rfl)))
theorem cd_167_118 : mt_cd 167 118 = some (.aload_n 0) := mt_cd_of (q := (118, .aload_n 0, 1)) mq_167 ci_167 (List.mem_append_right _ (List.mem_append_left _ (show _ ∈ my_167_1 from List.mem_of_getElem? (i := 8) rfl)))
theorem cd_167_119 : mt_cd 167 119 = some (.aload_n 0) := mt_cd_of (q := (119, .aload_n 0, 1)) mq_167 ci_167 (List.mem_append_right _ (List.mem_append_left _ (show _ ∈ my_167_1 from List.mem_of_getElem? (i := 9) rfl)))
theorem cd_167_120 : mt_cd 167 120 = some (.ldc_w 409) := mt_cd_of (q := (120, .ldc_w 409, 3)) mq_167 ci_167 (List.mem_append_right _ (List.mem_append_left _ (show _ ∈ my_167_1 from List.mem_of_getElem? (i := 10) rfl)))
theorem cd_167_123 : mt_cd 167 123 = some (.invokevirtual 375) := mt_cd_of (q := (123, .invokevirtual 375, 3)) mq_167 ci_167 (List.mem_append_right _ (List.mem_append_left _ (show _ ∈ my_167_1 from List.mem_of_getElem? (i := 11) rfl)))
theorem cd_167_126 : mt_cd 167 126 = some (.invokevirtual 383) := mt_cd_of (q := (126, .invokevirtual 383, 3)) mq_167 ci_167 (List.mem_append_right _ (List.mem_append_left _ (show _ ∈ my_167_1 from List.mem_of_getElem? (i := 12) rfl)))
theorem cd_167_129 : mt_cd 167 129 = some (.ifCond .ne 5) := mt_cd_of (q := (129, .ifCond .ne 5, 3)) mq_167 ci_167 (List.mem_append_right _ (List.mem_append_left _ (show _ ∈ my_167_1 from List.mem_of_getElem? (i := 13) rfl)))
theorem cd_167_132 : mt_cd 167 132 = some (.iconst 0) := mt_cd_of (q := (132, .iconst 0, 1)) mq_167 ci_167 (List.mem_append_right _ (List.mem_append_left _ (show _ ∈ my_167_1 from List.mem_of_getElem? (i := 14) rfl)))
theorem cd_167_133 : mt_cd 167 133 = some (.ireturn) := mt_cd_of (q := (133, .ireturn, 1)) mq_167 ci_167 (List.mem_append_right _ (List.mem_append_left _ (show _ ∈ my_167_1 from List.mem_of_getElem? (i := 15) rfl)))
theorem cd_167_134 : mt_cd 167 134 = some (.aload_n 0) := mt_cd_of (q := (134, .aload_n 0, 1)) mq_167 ci_167 (List.mem_append_right _ (List.mem_append_left _ (show _ ∈ my_167_1 from List.mem_of_getElem? (i := 16) rfl)))
theorem cd_167_135 : mt_cd 167 135 = some (.getfield 141) := mt_cd_of (q := (135, .getfield 141, 3)) mq_167 ci_167 (List.mem_append_right _ (List.mem_append_left _ (show _ ∈ my_167_1 from List.mem_of_getElem? (i := 17) rfl)))
theorem cd_167_138 : mt_cd 167 138 = some (.iload_n 1) := mt_cd_of (q := (138, .iload_n 1, 1)) mq_167 ci_167 (List.mem_append_right _ (List.mem_append_left _ (show _ ∈ my_167_1 from List.mem_of_getElem? (i := 18) rfl)))
theorem cd_167_139 : mt_cd 167 139 = some (.aload_n 0) := mt_cd_of (q := (139, .aload_n 0, 1)) mq_167 ci_167 (List.mem_append_right _ (List.mem_append_left _ (show _ ∈ my_167_1 from List.mem_of_getElem? (i := 19) rfl)))
theorem cd_167_140 : mt_cd 167 140 = some (.getfield 340) := mt_cd_of (q := (140, .getfield 340, 3)) mq_167 ci_167 (List.mem_append_right _ (List.mem_append_left _ (show _ ∈ my_167_1 from List.mem_of_getElem? (i := 20) rfl)))
theorem cd_167_143 : mt_cd 167 143 = some (.iastore) := mt_cd_of (q := (143, .iastore, 1)) mq_167 ci_167 (List.mem_append_right _ (List.mem_append_left _ (show _ ∈ my_167_1 from List.mem_of_getElem? (i := 21) rfl)))
theorem cd_167_144 : mt_cd 167 144 = some (.aload_n 0) := mt_cd_of (q := (144, .aload_n 0, 1)) mq_167 ci_167 (List.mem_append_right _ (List.mem_append_left _ (show _ ∈ my_167_1 from List.mem_of_getElem? (i := 22) rfl)))
theorem cd_167_145 : mt_cd 167 145 = some (.getfield 95) := mt_cd_of (q := (145, .getfield 95, 3)) mq_167 ci_167 (List.mem_append_right _ (List.mem_append_left _ (show _ ∈ my_167_1 from List.mem_of_getElem? (i := 23) rfl)))
theorem cd_167_148 : mt_cd 167 148 = some (.iload_n 1) := mt_cd_of (q := (148, .iload_n 1, 1)) mq_167 ci_167 (List.mem_append_right _ (List.mem_append_left _ (show _ ∈ my_167_1 from List.mem_of_getElem? (i := 24) rfl)))
theorem cd_167_149 : mt_cd 167 149 = some (.iconst 0) := mt_cd_of (q := (149, .iconst 0, 1)) mq_167 ci_167 (List.mem_append_right _ (List.mem_append_left _ (show _ ∈ my_167_1 from List.mem_of_getElem? (i := 25) rfl)))
theorem cd_167_150 : mt_cd 167 150 = some (.iastore) := mt_cd_of (q := (150, .iastore, 1)) mq_167 ci_167 (List.mem_append_right _ (List.mem_append_left _ (show _ ∈ my_167_1 from List.mem_of_getElem? (i := 26) rfl)))
theorem cd_167_151 : mt_cd 167 151 = some (.aload_n 0) := mt_cd_of (q := (151, .aload_n 0, 1)) mq_167 ci_167 (List.mem_append_right _ (List.mem_append_left _ (show _ ∈ my_167_1 from List.mem_of_getElem? (i := 27) rfl)))
theorem cd_167_152 : mt_cd 167 152 = some (.getfield 310) := mt_cd_of (q := (152, .getfield 310, 3)) mq_167 ci_167 (List.mem_append_right _ (List.mem_append_left _ (show _ ∈ my_167_1 from List.mem_of_getElem? (i := 28) rfl)))
theorem cd_167_155 : mt_cd 167 155 = some (.iconst 2) := mt_cd_of (q := (155, .iconst 2, 1)) mq_167 ci_167 (List.mem_append_right _ (List.mem_append_left _ (show _ ∈ my_167_1 from List.mem_of_getElem? (i := 29) rfl)))
theorem cd_167_156 : mt_cd 167 156 = some (.if_icmp .eq 12) := mt_cd_of (q := (156, .if_icmp .eq 12, 3)) mq_167 ci_167 (List.mem_append_right _ (List.mem_append_left _ (show _ ∈ my_167_1 from List.mem_of_getElem? (i := 30) rfl)))
theorem cd_167_159 : mt_cd 167 159 = some (.aload_n 0) := mt_cd_of (q := (159, .aload_n 0, 1)) mq_167 ci_167 (List.mem_append_right _ (List.mem_append_left _ (show _ ∈ my_167_1 from List.mem_of_getElem? (i := 31) rfl)))
theorem cd_167_160 : mt_cd 167 160 = some (.aload_n 0) := mt_cd_of (q := (160, .aload_n 0, 1)) mq_167 ci_167 (List.mem_append_right _ (List.mem_append_left _ (show _ ∈ my_167_1 from List.mem_of_getElem? (i := 32) rfl)))
theorem cd_167_161 : mt_cd 167 161 = some (.getfield 299) := mt_cd_of (q := (161, .getfield 299, 3)) mq_167 ci_167 (List.mem_append_right _ (List.mem_append_left _ (show _ ∈ my_167_1 from List.mem_of_getElem? (i := 33) rfl)))
theorem cd_167_164 : mt_cd 167 164 = some (.invokevirtual 272) := mt_cd_of (q := (164, .invokevirtual 272, 3)) mq_167 ci_167 (List.mem_append_right _ (List.mem_append_left _ (show _ ∈ my_167_1 from List.mem_of_getElem? (i := 34) rfl)))
theorem cd_167_167 : mt_cd 167 167 = some (.ireturn) := mt_cd_of (q := (167, .ireturn, 1)) mq_167 ci_167 (List.mem_append_right _ (List.mem_append_left _ (show _ ∈ my_167_1 from List.mem_of_getElem? (i := 35) rfl)))
theorem cd_167_168 : mt_cd 167 168 = some (.aload_n 0) := mt_cd_of (q := (168, .aload_n 0, 1)) mq_167 ci_167 (List.mem_append_right _ (List.mem_append_left _ (show _ ∈ my_167_1 from List.mem_of_getElem? (i := 36) rfl)))
theorem cd_167_169 : mt_cd 167 169 = some (.getfield 327) := mt_cd_of (q := (169, .getfield 327, 3)) mq_167 ci_167 (List.mem_append_right _ (List.mem_append_left _ (show _ ∈ my_167_1 from List.mem_of_getElem? (i := 37) rfl)))
theorem cd_167_172 : mt_cd 167 172 = some (.lstore_n 2) := mt_cd_of (q := (172, .lstore_n 2, 1)) mq_167 ci_167 (List.mem_append_right _ (List.mem_append_left _ (show _ ∈ my_167_1 from List.mem_of_getElem? (i := 38) rfl)))
theorem cd_167_173 : mt_cd 167 173 = some (.aload_n 0) := mt_cd_of (q := (173, .aload_n 0, 1)) mq_167 ci_167 (List.mem_append_right _ (List.mem_append_left _ (show _ ∈ my_167_1 from List.mem_of_getElem? (i := 39) rfl)))
theorem cd_167_174 : mt_cd 167 174 = some (.invokevirtual 333) := mt_cd_of (q := (174, .invokevirtual 333, 3)) mq_167 ci_167 (List.mem_append_right _ (List.mem_append_left _ (show _ ∈ my_167_1 from List.mem_of_getElem? (i := 40) rfl)))
theorem cd_167_177 : mt_cd 167 177 = some (.ifCond .ne 5) := mt_cd_of (q := (177, .ifCond .ne 5, 3)) mq_167 ci_167 (List.mem_append_right _ (List.mem_append_left _ (show _ ∈ my_167_1 from List.mem_of_getElem? (i := 41) rfl)))
theorem cd_167_180 : mt_cd 167 180 = some (.iconst 0) := mt_cd_of (q := (180, .iconst 0, 1)) mq_167 ci_167 (List.mem_append_right _ (List.mem_append_left _ (show _ ∈ my_167_1 from List.mem_of_getElem? (i := 42) rfl)))
theorem cd_167_181 : mt_cd 167 181 = some (.ireturn) := mt_cd_of (q := (181, .ireturn, 1)) mq_167 ci_167 (List.mem_append_right _ (List.mem_append_left _ (show _ ∈ my_167_1 from List.mem_of_getElem? (i := 43) rfl)))
theorem cd_167_182 : mt_cd 167 182 = some (.aload_n 0) := mt_cd_of (q := (182, .aload_n 0, 1)) mq_167 ci_167 (List.mem_append_right _ (List.mem_append_left _ (show _ ∈ my_167_1 from List.mem_of_getElem? (i := 44) rfl)))
theorem cd_167_183 : mt_cd 167 183 = some (.getfield 310) := mt_cd_of (q := (183, .getfield 310, 3)) mq_167 ci_167 (List.mem_append_right _ (List.mem_append_left _ (show _ ∈ my_167_1 from List.mem_of_getElem? (i := 45) rfl)))
theorem cd_167_186 : mt_cd 167 186 = some (.iconst 2) := mt_cd_of (q := (186, .iconst 2, 1)) mq_167 ci_167 (List.mem_append_right _ (List.mem_append_left _ (show _ ∈ my_167_1 from List.mem_of_getElem? (i := 46) rfl)))
theorem cd_167_187 : mt_cd 167 187 = some (.if_icmp .ne 12) := mt_cd_of (q := (187, .if_icmp .ne 12, 3)) mq_167 ci_167 (List.mem_append_right _ (List.mem_append_left _ (show _ ∈ my_167_1 from List.mem_of_getElem? (i := 47) rfl)))
theorem cd_167_190 : mt_cd 167 190 = some (.aload_n 0) := mt_cd_of (q := (190, .aload_n 0, 1)) mq_167 ci_167 (List.mem_append_right _ (List.mem_append_left _ (show _ ∈ my_167_1 from List.mem_of_getElem? (i := 48) rfl)))
theorem cd_167_191 : mt_cd 167 191 = some (.getfield 327) := mt_cd_of (q := (191, .getfield 327, 3)) mq_167 ci_167 (List.mem_append_right _ (List.mem_append_left _ (show _ ∈ my_167_1 from List.mem_of_getElem? (i := 49) rfl)))
theorem cd_167_194 : mt_cd 167 194 = some (.lload_n 2) := mt_cd_of (q := (194, .lload_n 2, 1)) mq_167 ci_167 (List.mem_append_right _ (List.mem_append_left _ (show _ ∈ my_167_1 from List.mem_of_getElem? (i := 50) rfl)))
theorem cd_167_195 : mt_cd 167 195 = some (.lcmp) := mt_cd_of (q := (195, .lcmp, 1)) mq_167 ci_167 (List.mem_append_right _ (List.mem_append_left _ (show _ ∈ my_167_1 from List.mem_of_getElem? (i := 51) rfl)))
theorem cd_167_196 : mt_cd 167 196 = some (.ifCond .ge 12) := mt_cd_of (q := (196, .ifCond .ge 12, 3)) mq_167 ci_167 (List.mem_append_right _ (List.mem_append_left _ (show _ ∈ my_167_1 from List.mem_of_getElem? (i := 52) rfl)))
theorem cd_167_199 : mt_cd 167 199 = some (.aload_n 0) := mt_cd_of (q := (199, .aload_n 0, 1)) mq_167 ci_167 (List.mem_append_right _ (List.mem_append_left _ (show _ ∈ my_167_1 from List.mem_of_getElem? (i := 53) rfl)))
theorem cd_167_200 : mt_cd 167 200 = some (.aload_n 0) := mt_cd_of (q := (200, .aload_n 0, 1)) mq_167 ci_167 (List.mem_append_right _ (List.mem_append_left _ (show _ ∈ my_167_1 from List.mem_of_getElem? (i := 54) rfl)))
theorem cd_167_201 : mt_cd 167 201 = some (.getfield 299) := mt_cd_of (q := (201, .getfield 299, 3)) mq_167 ci_167 (List.mem_append_right _ (List.mem_append_left _ (show _ ∈ my_167_1 from List.mem_of_getElem? (i := 55) rfl)))
theorem cd_167_204 : mt_cd 167 204 = some (.invokevirtual 272) := mt_cd_of (q := (204, .invokevirtual 272, 3)) mq_167 ci_167 (List.mem_append_right _ (List.mem_append_left _ (show _ ∈ my_167_1 from List.mem_of_getElem? (i := 56) rfl)))
theorem cd_167_207 : mt_cd 167 207 = some (.ireturn) := mt_cd_of (q := (207, .ireturn, 1)) mq_167 ci_167 (List.mem_append_right _ (List.mem_append_left _ (show _ ∈ my_167_1 from List.mem_of_getElem? (i := 57) rfl)))
theorem cd_167_208 : mt_cd 167 208 = some (.aload_n 0) := mt_cd_of (q := (208, .aload_n 0, 1)) mq_167 ci_167 (List.mem_append_right _ (List.mem_append_left _ (show _ ∈ my_167_1 from List.mem_of_getElem? (i := 58) rfl)))
theorem cd_167_209 : mt_cd 167 209 = some (.getfield 105) := mt_cd_of (q := (209, .getfield 105, 3)) mq_167 ci_167 (List.mem_append_right _ (List.mem_append_left _ (show _ ∈ my_167_1 from List.mem_of_getElem? (i := 59) rfl)))
theorem cd_167_212 : mt_cd 167 212 = some (.aload_n 0) := mt_cd_of (q := (212, .aload_n 0, 1)) mq_167 ci_167 (List.mem_append_right _ (List.mem_append_right _ ((show _ ∈ my_167_2 from List.mem_of_getElem? (i := 0) rfl))))
theorem cd_167_213 : mt_cd 167 213 = some (.getfield 340) := mt_cd_of (q := (213, .getfield 340, 3)) mq_167 ci_167 (List.mem_append_right _ (List.mem_append_right _ ((show _ ∈ my_167_2 from List.mem_of_getElem? (i := 1) rfl))))
theorem cd_167_216 : mt_cd 167 216 = some (.lload_n 2) := mt_cd_of (q := (216, .lload_n 2, 1)) mq_167 ci_167 (List.mem_append_right _ (List.mem_append_right _ ((show _ ∈ my_167_2 from List.mem_of_getElem? (i := 2) rfl))))
theorem cd_167_217 : mt_cd 167 217 = some (.lastore) := mt_cd_of (q := (217, .lastore, 1)) mq_167 ci_167 (List.mem_append_right _ (List.mem_append_right _ ((show _ ∈ my_167_2 from List.mem_of_getElem? (i := 3) rfl))))
theorem cd_167_218 : mt_cd 167 218 = some (.aload_n 0) := mt_cd_of (q := (218, .aload_n 0, 1)) mq_167 ci_167 (List.mem_append_right _ (List.mem_append_right _ ((show _ ∈ my_167_2 from List.mem_of_getElem? (i := 4) rfl))))
theorem cd_167_219 : mt_cd 167 219 = some (.getfield 108) := mt_cd_of (q := (219, .getfield 108, 3)) mq_167 ci_167 (List.mem_append_right _ (List.mem_append_right _ ((show _ ∈ my_167_2 from List.mem_of_getElem? (i := 5) rfl))))
theorem cd_167_222 : mt_cd 167 222 = some (.aload_n 0) := mt_cd_of (q := (222, .aload_n 0, 1)) mq_167 ci_167 (List.mem_append_right _ (List.mem_append_right _ ((show _ ∈ my_167_2 from List.mem_of_getElem? (i := 6) rfl))))
theorem cd_167_223 : mt_cd 167 223 = some (.dup) := mt_cd_of (q := (223, .dup, 1)) mq_167 ci_167 (List.mem_append_right _ (List.mem_append_right _ ((show _ ∈ my_167_2 from List.mem_of_getElem? (i := 7) rfl))))
theorem cd_167_224 : mt_cd 167 224 = some (.getfield 340) := mt_cd_of (q := (224, .getfield 340, 3)) mq_167 ci_167 (List.mem_append_right _ (List.mem_append_right _ ((show _ ∈ my_167_2 from List.mem_of_getElem? (i := 8) rfl))))
theorem cd_167_227 : mt_cd 167 227 = some (.dup_x1) := mt_cd_of (q := (227, .dup_x1, 1)) mq_167 ci_167 (List.mem_append_right _ (List.mem_append_right _ ((show _ ∈ my_167_2 from List.mem_of_getElem? (i := 9) rfl))))
theorem cd_167_228 : mt_cd 167 228 = some (.iconst 1) := mt_cd_of (q := (228, .iconst 1, 1)) mq_167 ci_167 (List.mem_append_right _ (List.mem_append_right _ ((show _ ∈ my_167_2 from List.mem_of_getElem? (i := 10) rfl))))
theorem cd_167_229 : mt_cd 167 229 = some (.iadd) := mt_cd_of (q := (229, .iadd, 1)) mq_167 ci_167 (List.mem_append_right _ (List.mem_append_right _ ((show _ ∈ my_167_2 from List.mem_of_getElem? (i := 11) rfl))))
theorem cd_167_230 : mt_cd 167 230 = some (.putfield 340) := mt_cd_of (q := (230, .putfield 340, 3)) mq_167 ci_167 (List.mem_append_right _ (List.mem_append_right _ ((show _ ∈ my_167_2 from List.mem_of_getElem? (i := 12) rfl))))
theorem cd_167_233 : mt_cd 167 233 = some (.aload_n 0) := mt_cd_of (q := (233, .aload_n 0, 1)) mq_167 ci_167 (List.mem_append_right _ (List.mem_append_right _ ((show _ ∈ my_167_2 from List.mem_of_getElem? (i := 13) rfl))))
theorem cd_167_234 : mt_cd 167 234 = some (.getfield 327) := mt_cd_of (q := (234, .getfield 327, 3)) mq_167 ci_167 (List.mem_append_right _ (List.mem_append_right _ ((show _ ∈ my_167_2 from List.mem_of_getElem? (i := 14) rfl))))
theorem cd_167_237 : mt_cd 167 237 = some (.lastore) := mt_cd_of (q := (237, .lastore, 1)) mq_167 ci_167 (List.mem_append_right _ (List.mem_append_right _ ((show _ ∈ my_167_2 from List.mem_of_getElem? (i := 15) rfl))))
theorem cd_167_238 : mt_cd 167 238 = some (.aload_n 0) := mt_cd_of (q := (238, .aload_n 0, 1)) mq_167 ci_167 (List.mem_append_right _ (List.mem_append_right _ ((show _ ∈ my_167_2 from List.mem_of_getElem? (i := 16) rfl))))
theorem cd_167_239 : mt_cd 167 239 = some (.getfield 95) := mt_cd_of (q := (239, .getfield 95, 3)) mq_167 ci_167 (List.mem_append_right _ (List.mem_append_right _ ((show _ ∈ my_167_2 from List.mem_of_getElem? (i := 17) rfl))))
theorem cd_167_242 : mt_cd 167 242 = some (.iload_n 1) := mt_cd_of (q := (242, .iload_n 1, 1)) mq_167 ci_167 (List.mem_append_right _ (List.mem_append_right _ ((show _ ∈ my_167_2 from List.mem_of_getElem? (i := 18) rfl))))
theorem cd_167_243 : mt_cd 167 243 = some (.dup2) := mt_cd_of (q := (243, .dup2, 1)) mq_167 ci_167 (List.mem_append_right _ (List.mem_append_right _ ((show _ ∈ my_167_2 from List.mem_of_getElem? (i := 19) rfl))))
theorem cd_167_244 : mt_cd 167 244 = some (.iaload) := mt_cd_of (q := (244, .iaload, 1)) mq_167 ci_167 (List.mem_append_right _ (List.mem_append_right _ ((show _ ∈ my_167_2 from List.mem_of_getElem? (i := 20) rfl))))
theorem cd_167_245 : mt_cd 167 245 = some (.iconst 1) := mt_cd_of (q := (245, .iconst 1, 1)) mq_167 ci_167 (List.mem_append_right _ (List.mem_append_right _ ((show _ ∈ my_167_2 from List.mem_of_getElem? (i := 21) rfl))))
theorem cd_167_246 : mt_cd 167 246 = some (.iadd) := mt_cd_of (q := (246, .iadd, 1)) mq_167 ci_167 (List.mem_append_right _ (List.mem_append_right _ ((show _ ∈ my_167_2 from List.mem_of_getElem? (i := 22) rfl))))
theorem cd_167_247 : mt_cd 167 247 = some (.iastore) := mt_cd_of (q := (247, .iastore, 1)) mq_167 ci_167 (List.mem_append_right _ (List.mem_append_right _ ((show _ ∈ my_167_2 from List.mem_of_getElem? (i := 23) rfl))))
theorem cd_167_248 : mt_cd 167 248 = some (.aload_n 0) := mt_cd_of (q := (248, .aload_n 0, 1)) mq_167 ci_167 (List.mem_append_right _ (List.mem_append_right _ ((show _ ∈ my_167_2 from List.mem_of_getElem? (i := 24) rfl))))
theorem cd_167_249 : mt_cd 167 249 = some (.invokevirtual 333) := mt_cd_of (q := (249, .invokevirtual 333, 3)) mq_167 ci_167 (List.mem_append_right _ (List.mem_append_right _ ((show _ ∈ my_167_2 from List.mem_of_getElem? (i := 25) rfl))))
theorem cd_167_252 : mt_cd 167 252 = some (.ifCond .ne 5) := mt_cd_of (q := (252, .ifCond .ne 5, 3)) mq_167 ci_167 (List.mem_append_right _ (List.mem_append_right _ ((show _ ∈ my_167_2 from List.mem_of_getElem? (i := 26) rfl))))
theorem cd_167_255 : mt_cd 167 255 = some (.iconst 0) := mt_cd_of (q := (255, .iconst 0, 1)) mq_167 ci_167 (List.mem_append_right _ (List.mem_append_right _ ((show _ ∈ my_167_2 from List.mem_of_getElem? (i := 27) rfl))))
theorem cd_167_256 : mt_cd 167 256 = some (.ireturn) := mt_cd_of (q := (256, .ireturn, 1)) mq_167 ci_167 (List.mem_append_right _ (List.mem_append_right _ ((show _ ∈ my_167_2 from List.mem_of_getElem? (i := 28) rfl))))
theorem cd_167_257 : mt_cd 167 257 = some (.aload_n 0) := mt_cd_of (q := (257, .aload_n 0, 1)) mq_167 ci_167 (List.mem_append_right _ (List.mem_append_right _ ((show _ ∈ my_167_2 from List.mem_of_getElem? (i := 29) rfl))))
theorem cd_167_258 : mt_cd 167 258 = some (.ldc_w 411) := mt_cd_of (q := (258, .ldc_w 411, 3)) mq_167 ci_167 (List.mem_append_right _ (List.mem_append_right _ ((show _ ∈ my_167_2 from List.mem_of_getElem? (i := 30) rfl))))
theorem cd_167_261 : mt_cd 167 261 = some (.invokevirtual 375) := mt_cd_of (q := (261, .invokevirtual 375, 3)) mq_167 ci_167 (List.mem_append_right _ (List.mem_append_right _ ((show _ ∈ my_167_2 from List.mem_of_getElem? (i := 31) rfl))))
theorem cd_167_264 : mt_cd 167 264 = some (.ifCond .eq (-113)) := mt_cd_of (q := (264, .ifCond .eq (-113), 3)) mq_167 ci_167 (List.mem_append_right _ (List.mem_append_right _ ((show _ ∈ my_167_2 from List.mem_of_getElem? (i := 32) rfl))))
theorem cd_167_267 : mt_cd 167 267 = some (.aload_n 0) := mt_cd_of (q := (267, .aload_n 0, 1)) mq_167 ci_167 (List.mem_append_right _ (List.mem_append_right _ ((show _ ∈ my_167_2 from List.mem_of_getElem? (i := 33) rfl))))
theorem cd_167_268 : mt_cd 167 268 = some (.invokevirtual 333) := mt_cd_of (q := (268, .invokevirtual 333, 3)) mq_167 ci_167 (List.mem_append_right _ (List.mem_append_right _ ((show _ ∈ my_167_2 from List.mem_of_getElem? (i := 34) rfl))))
theorem cd_167_271 : mt_cd 167 271 = some (.ireturn) := mt_cd_of (q := (271, .ireturn, 1)) mq_167 ci_167 (List.mem_append_right _ (List.mem_append_right _ ((show _ ∈ my_167_2 from List.mem_of_getElem? (i := 35) rfl))))
theorem b_167_0 {d : Nat} {Q : (Option Value ⊕ Nat) → mi_H → Prop} (n sl : Nat) (f : Nat → mi_C) {l1 : Nat} {l2 : Int32} {o3 : Option Value} {o4 : Option Value} {fs5 : List Value} {x8 : Nat} (m10 i10 : Nat) (g10 : Nat → Int32) (h6 : f l1 = .inr (12, fs5)) (h7 : l1 < n) (h9 : fs5[12]? = some (.ref x8)) (h11 : f x8 = .inl (0, m10, .inl g10)) (h12 : x8 < n ∨ x8 = mi_SC) (h13 : mi_ix l2 m10 i10) (h14 : ¬ (g10 i10) = 7 → mi_W d 167 73 [some (.ref l1), some (.int l2), o3, o4] [] (n, sl, f) Q) (h15 : ¬ (¬ (g10 i10) = 7) → mi_W d 167 11 [some (.ref l1), some (.int l2), o3, o4] [] (n, sl, f) Q) : mi_W d 167 0 [some (.ref l1), some (.int l2), o3, o4] [] (n, sl, f) Q := by
  refine w_aload_n cd_167_0 rfl ?_
  refine w_getfield cd_167_1 (show mt_f 12 77 = some (12, 12) by decide +kernel) h6 h7 h9 ?_
  refine w_iload_n cd_167_4 rfl ?_
  refine w_iaload cd_167_5 h11 h12 h13 ?_
  refine w_bipush (v := 7) cd_167_6 (by decide) ?_
  exact w_if_icmpne cd_167_8 (by decide) h14 h15
theorem b_167_11 {d : Nat} {Q : (Option Value ⊕ Nat) → mi_H → Prop} (n sl : Nat) (f : Nat → mi_C) {l1 : Nat} {l2 : Int32} {o3 : Option Value} {o4 : Option Value} {fs5 : List Value} {x8 : Nat} {fs10 : List Value} (h6 : f l1 = .inr (12, fs5)) (h7 : l1 < n) (h9 : fs5[13]? = some (.ref x8)) (h11 : f l1 = .inr (12, fs10)) (h12 : l1 < n) (h13 : mi_W d 157 0 (mi_en 2 [.ref l1]) [] (n, sl, f) (mi_Kc d 167 17 [some (.ref l1), some (.int l2), o3, o4] [.int l2, .ref x8] Q)) : mi_W (d + 1) 167 11 [some (.ref l1), some (.int l2), o3, o4] [] (n, sl, f) Q := by
  refine w_aload_n cd_167_11 rfl ?_
  refine w_getfield cd_167_12 (show mt_f 12 80 = some (12, 13) by decide +kernel) h6 h7 h9 ?_
  refine w_iload_n cd_167_15 rfl ?_
  refine w_aload_n cd_167_16 rfl ?_
  exact w_invokevirtual cd_167_17 (show mt_m 12 370 = some (157, 0) by decide +kernel) (rest := [.int l2, .ref x8]) rfl (as := [.ref l1]) rfl h11 (Or.inl h12) ⟨Nat.le_of_ble_eq_true rfl, Nat.le_of_ble_eq_true rfl, Nat.le_of_ble_eq_true rfl⟩ h13
theorem b_167_20 {d : Nat} {Q : (Option Value ⊕ Nat) → mi_H → Prop} (n sl : Nat) (f : Nat → mi_C) {l1 : Nat} {l2 : Int32} {o3 : Option Value} {o4 : Option Value} {s5 : Int32} {s6 : Int32} {s7 : Nat} (m8 i8 : Nat) (g8 : Nat → Int32) (h9 : f s7 = .inl (0, m8, .inl g8)) (h10 : s7 < n) (h11 : mi_ix s6 m8 i8) (h12 : s5 < (0 : Int32) → mi_W d 167 71 [some (.ref l1), some (.int l2), o3, o4] [] (n, sl, (va_up f s7 (.inl (0, m8, .inl (upd g8 i8 s5))))) Q) (h13 : ¬ (s5 < (0 : Int32)) → mi_W d 167 25 [some (.ref l1), some (.int l2), o3, o4] [] (n, sl, (va_up f s7 (.inl (0, m8, .inl (upd g8 i8 s5))))) Q) : mi_W d 167 20 [some (.ref l1), some (.int l2), o3, o4] [.int s5, .int s6, .ref s7] (n, sl, f) Q := by
  refine w_dup_x2_iir cd_167_20 ?_
  refine w_iastore cd_167_21 h9 h10 h11 ?_
  exact w_iflt cd_167_22 (by decide) h12 h13
theorem b_167_25 {d : Nat} {Q : (Option Value ⊕ Nat) → mi_H → Prop} (n sl : Nat) (f : Nat → mi_C) {l1 : Nat} {l2 : Int32} {o3 : Option Value} {o4 : Option Value} {fs5 : List Value} {x8 : Nat} {fs10 : List Value} (h6 : f l1 = .inr (12, fs5)) (h7 : l1 < n) (h9 : fs5[14]? = some (.ref x8)) (h11 : f l1 = .inr (12, fs10)) (h12 : l1 < n) (h13 : mi_W d 157 0 (mi_en 2 [.ref l1]) [] (n, sl, f) (mi_Kc d 167 31 [some (.ref l1), some (.int l2), o3, o4] [.int l2, .ref x8] Q)) : mi_W (d + 1) 167 25 [some (.ref l1), some (.int l2), o3, o4] [] (n, sl, f) Q := by
  refine w_aload_n cd_167_25 rfl ?_
  refine w_getfield cd_167_26 (show mt_f 12 83 = some (12, 14) by decide +kernel) h6 h7 h9 ?_
  refine w_iload_n cd_167_29 rfl ?_
  refine w_aload_n cd_167_30 rfl ?_
  exact w_invokevirtual cd_167_31 (show mt_m 12 370 = some (157, 0) by decide +kernel) (rest := [.int l2, .ref x8]) rfl (as := [.ref l1]) rfl h11 (Or.inl h12) ⟨Nat.le_of_ble_eq_true rfl, Nat.le_of_ble_eq_true rfl, Nat.le_of_ble_eq_true rfl⟩ h13
theorem b_167_34 {d : Nat} {Q : (Option Value ⊕ Nat) → mi_H → Prop} (n sl : Nat) (f : Nat → mi_C) {l1 : Nat} {l2 : Int32} {o3 : Option Value} {o4 : Option Value} {s5 : Int32} {s6 : Int32} {s7 : Nat} (m8 i8 : Nat) (g8 : Nat → Int32) (h9 : f s7 = .inl (0, m8, .inl g8)) (h10 : s7 < n) (h11 : mi_ix s6 m8 i8) (h12 : s5 < (0 : Int32) → mi_W d 167 71 [some (.ref l1), some (.int l2), o3, o4] [] (n, sl, (va_up f s7 (.inl (0, m8, .inl (upd g8 i8 s5))))) Q) (h13 : ¬ (s5 < (0 : Int32)) → mi_W d 167 39 [some (.ref l1), some (.int l2), o3, o4] [] (n, sl, (va_up f s7 (.inl (0, m8, .inl (upd g8 i8 s5))))) Q) : mi_W d 167 34 [some (.ref l1), some (.int l2), o3, o4] [.int s5, .int s6, .ref s7] (n, sl, f) Q := by
  refine w_dup_x2_iir cd_167_34 ?_
  refine w_iastore cd_167_35 h9 h10 h11 ?_
  exact w_iflt cd_167_36 (by decide) h12 h13
theorem b_167_39 {d : Nat} {Q : (Option Value ⊕ Nat) → mi_H → Prop} (n sl : Nat) (f : Nat → mi_C) {l1 : Nat} {l2 : Int32} {o3 : Option Value} {o4 : Option Value} {fs5 : List Value} {x8 : Nat} {fs10 : List Value} (h6 : f l1 = .inr (12, fs5)) (h7 : l1 < n) (h9 : fs5[15]? = some (.ref x8)) (h11 : f l1 = .inr (12, fs10)) (h12 : l1 < n) (h13 : mi_W d 160 0 (mi_en 2 [.ref l1]) [] (n, sl, f) (mi_Kc d 167 45 [some (.ref l1), some (.int l2), o3, o4] [.int l2, .ref x8] Q)) : mi_W (d + 1) 167 39 [some (.ref l1), some (.int l2), o3, o4] [] (n, sl, f) Q := by
  refine w_aload_n cd_167_39 rfl ?_
  refine w_getfield cd_167_40 (show mt_f 12 86 = some (12, 15) by decide +kernel) h6 h7 h9 ?_
  refine w_iload_n cd_167_43 rfl ?_
  refine w_aload_n cd_167_44 rfl ?_
  exact w_invokevirtual cd_167_45 (show mt_m 12 396 = some (160, 0) by decide +kernel) (rest := [.int l2, .ref x8]) rfl (as := [.ref l1]) rfl h11 (Or.inl h12) ⟨Nat.le_of_ble_eq_true rfl, Nat.le_of_ble_eq_true rfl, Nat.le_of_ble_eq_true rfl⟩ h13
theorem b_167_48 {d : Nat} {Q : (Option Value ⊕ Nat) → mi_H → Prop} (n sl : Nat) (f : Nat → mi_C) {l1 : Nat} {l2 : Int32} {o3 : Option Value} {o4 : Option Value} {s5 : Int32} {s6 : Int32} {s7 : Nat} (m8 i8 : Nat) (g8 : Nat → Int32) (h9 : f s7 = .inl (0, m8, .inl g8)) (h10 : s7 < n) (h11 : mi_ix s6 m8 i8) (h12 : s5 < (0 : Int32) → mi_W d 167 71 [some (.ref l1), some (.int l2), o3, o4] [] (n, sl, (va_up f s7 (.inl (0, m8, .inl (upd g8 i8 s5))))) Q) (h13 : ¬ (s5 < (0 : Int32)) → mi_W d 167 53 [some (.ref l1), some (.int l2), o3, o4] [] (n, sl, (va_up f s7 (.inl (0, m8, .inl (upd g8 i8 s5))))) Q) : mi_W d 167 48 [some (.ref l1), some (.int l2), o3, o4] [.int s5, .int s6, .ref s7] (n, sl, f) Q := by
  refine w_dup_x2_iir cd_167_48 ?_
  refine w_iastore cd_167_49 h9 h10 h11 ?_
  exact w_iflt cd_167_50 (by decide) h12 h13
theorem b_167_53 {d : Nat} {Q : (Option Value ⊕ Nat) → mi_H → Prop} (n sl : Nat) (f : Nat → mi_C) {l1 : Nat} {l2 : Int32} {o3 : Option Value} {o4 : Option Value} {fs5 : List Value} {x8 : Nat} {fs10 : List Value} (h6 : f l1 = .inr (12, fs5)) (h7 : l1 < n) (h9 : fs5[16]? = some (.ref x8)) (h11 : f l1 = .inr (12, fs10)) (h12 : l1 < n) (h13 : mi_W d 161 0 (mi_en 4 [.ref l1]) [] (n, sl, f) (mi_Kc d 167 59 [some (.ref l1), some (.int l2), o3, o4] [.int l2, .ref x8] Q)) : mi_W (d + 1) 167 53 [some (.ref l1), some (.int l2), o3, o4] [] (n, sl, f) Q := by
  refine w_aload_n cd_167_53 rfl ?_
  refine w_getfield cd_167_54 (show mt_f 12 89 = some (12, 16) by decide +kernel) h6 h7 h9 ?_
  refine w_iload_n cd_167_57 rfl ?_
  refine w_aload_n cd_167_58 rfl ?_
  exact w_invokevirtual cd_167_59 (show mt_m 12 399 = some (161, 0) by decide +kernel) (rest := [.int l2, .ref x8]) rfl (as := [.ref l1]) rfl h11 (Or.inl h12) ⟨Nat.le_of_ble_eq_true rfl, Nat.le_of_ble_eq_true rfl, Nat.le_of_ble_eq_true rfl⟩ h13
theorem b_167_62 {d : Nat} {Q : (Option Value ⊕ Nat) → mi_H → Prop} (n sl : Nat) (f : Nat → mi_C) {l1 : Nat} {l2 : Int32} {o3 : Option Value} {o4 : Option Value} {s5 : Int32} {s6 : Int32} {s7 : Nat} (m8 i8 : Nat) (g8 : Nat → Int32) (h9 : f s7 = .inl (0, m8, .inl g8)) (h10 : s7 < n) (h11 : mi_ix s6 m8 i8) (h12 : s5 < (0 : Int32) → mi_W d 167 71 [some (.ref l1), some (.int l2), o3, o4] [] (n, sl, (va_up f s7 (.inl (0, m8, .inl (upd g8 i8 s5))))) Q) (h13 : ¬ (s5 < (0 : Int32)) → mi_W d 167 67 [some (.ref l1), some (.int l2), o3, o4] [] (n, sl, (va_up f s7 (.inl (0, m8, .inl (upd g8 i8 s5))))) Q) : mi_W d 167 62 [some (.ref l1), some (.int l2), o3, o4] [.int s5, .int s6, .ref s7] (n, sl, f) Q := by
  refine w_dup_x2_iir cd_167_62 ?_
  refine w_iastore cd_167_63 h9 h10 h11 ?_
  exact w_iflt cd_167_64 (by decide) h12 h13
theorem b_167_67 {d : Nat} {Q : (Option Value ⊕ Nat) → mi_H → Prop} (n sl : Nat) (f : Nat → mi_C) {l1 : Nat} {l2 : Int32} {o3 : Option Value} {o4 : Option Value} (h5 : mi_W d 167 72 [some (.ref l1), some (.int l2), o3, o4] [.int 1] (n, sl, f) Q) : mi_W d 167 67 [some (.ref l1), some (.int l2), o3, o4] [] (n, sl, f) Q := by
  refine w_iconst (v := 1) cd_167_67 (by decide) ?_
  exact w_goto cd_167_68 (by decide) h5
theorem b_167_71 {d : Nat} {Q : (Option Value ⊕ Nat) → mi_H → Prop} (n sl : Nat) (f : Nat → mi_C) {l1 : Nat} {l2 : Int32} {o3 : Option Value} {o4 : Option Value} (h5 : mi_W d 167 72 [some (.ref l1), some (.int l2), o3, o4] [.int 0] (n, sl, f) Q) : mi_W d 167 71 [some (.ref l1), some (.int l2), o3, o4] [] (n, sl, f) Q := by
  refine w_iconst (v := 0) cd_167_71 (by decide) ?_
  exact h5
theorem b_167_72 {d : Nat} {Q : (Option Value ⊕ Nat) → mi_H → Prop} (n sl : Nat) (f : Nat → mi_C) {l1 : Nat} {l2 : Int32} {o3 : Option Value} {o4 : Option Value} {s5 : Int32} (h6 : s5 = 0 ∨ s5 = 1) (h7 : Q (.inl (some (.int s5))) (n, sl, f)) : mi_W d 167 72 [some (.ref l1), some (.int l2), o3, o4] [.int s5] (n, sl, f) Q := by
  exact w_ireturn_z cd_167_72 (by decide +kernel) h6 h7
theorem b_167_73 {d : Nat} {Q : (Option Value ⊕ Nat) → mi_H → Prop} (n sl : Nat) (f : Nat → mi_C) {l1 : Nat} {l2 : Int32} {o3 : Option Value} {o4 : Option Value} {fs5 : List Value} {x8 : Nat} (m10 i10 : Nat) (g10 : Nat → Int32) (h6 : f l1 = .inr (12, fs5)) (h7 : l1 < n) (h9 : fs5[12]? = some (.ref x8)) (h11 : f x8 = .inl (0, m10, .inl g10)) (h12 : x8 < n ∨ x8 = mi_SC) (h13 : mi_ix l2 m10 i10) (h14 : ¬ (g10 i10) = 9 → mi_W d 167 104 [some (.ref l1), some (.int l2), o3, o4] [] (n, sl, f) Q) (h15 : ¬ (¬ (g10 i10) = 9) → mi_W d 167 84 [some (.ref l1), some (.int l2), o3, o4] [] (n, sl, f) Q) : mi_W d 167 73 [some (.ref l1), some (.int l2), o3, o4] [] (n, sl, f) Q := by
  refine w_aload_n cd_167_73 rfl ?_
  refine w_getfield cd_167_74 (show mt_f 12 77 = some (12, 12) by decide +kernel) h6 h7 h9 ?_
  refine w_iload_n cd_167_77 rfl ?_
  refine w_iaload cd_167_78 h11 h12 h13 ?_
  refine w_bipush (v := 9) cd_167_79 (by decide) ?_
  exact w_if_icmpne cd_167_81 (by decide) h14 h15
theorem b_167_84 {d : Nat} {Q : (Option Value ⊕ Nat) → mi_H → Prop} (n sl : Nat) (f : Nat → mi_C) {l1 : Nat} {l2 : Int32} {o3 : Option Value} {o4 : Option Value} {fs5 : List Value} {x8 : Nat} {fs10 : List Value} (h6 : f l1 = .inr (12, fs5)) (h7 : l1 < n) (h9 : fs5[16]? = some (.ref x8)) (h11 : f l1 = .inr (12, fs10)) (h12 : l1 < n) (h13 : mi_W d 165 0 (mi_en 4 [.ref l1]) [] (n, sl, f) (mi_Kc d 167 90 [some (.ref l1), some (.int l2), o3, o4] [.int l2, .ref x8] Q)) : mi_W (d + 1) 167 84 [some (.ref l1), some (.int l2), o3, o4] [] (n, sl, f) Q := by
  refine w_aload_n cd_167_84 rfl ?_
  refine w_getfield cd_167_85 (show mt_f 12 89 = some (12, 16) by decide +kernel) h6 h7 h9 ?_
  refine w_iload_n cd_167_88 rfl ?_
  refine w_aload_n cd_167_89 rfl ?_
  exact w_invokevirtual cd_167_90 (show mt_m 12 401 = some (165, 0) by decide +kernel) (rest := [.int l2, .ref x8]) rfl (as := [.ref l1]) rfl h11 (Or.inl h12) ⟨Nat.le_of_ble_eq_true rfl, Nat.le_of_ble_eq_true rfl, Nat.le_of_ble_eq_true rfl⟩ h13
theorem b_167_93 {d : Nat} {Q : (Option Value ⊕ Nat) → mi_H → Prop} (n sl : Nat) (f : Nat → mi_C) {l1 : Nat} {l2 : Int32} {o3 : Option Value} {o4 : Option Value} {s5 : Int32} {s6 : Int32} {s7 : Nat} (m8 i8 : Nat) (g8 : Nat → Int32) (h9 : f s7 = .inl (0, m8, .inl g8)) (h10 : s7 < n) (h11 : mi_ix s6 m8 i8) (h12 : s5 < (0 : Int32) → mi_W d 167 102 [some (.ref l1), some (.int l2), o3, o4] [] (n, sl, (va_up f s7 (.inl (0, m8, .inl (upd g8 i8 s5))))) Q) (h13 : ¬ (s5 < (0 : Int32)) → mi_W d 167 98 [some (.ref l1), some (.int l2), o3, o4] [] (n, sl, (va_up f s7 (.inl (0, m8, .inl (upd g8 i8 s5))))) Q) : mi_W d 167 93 [some (.ref l1), some (.int l2), o3, o4] [.int s5, .int s6, .ref s7] (n, sl, f) Q := by
  refine w_dup_x2_iir cd_167_93 ?_
  refine w_iastore cd_167_94 h9 h10 h11 ?_
  exact w_iflt cd_167_95 (by decide) h12 h13
theorem b_167_98 {d : Nat} {Q : (Option Value ⊕ Nat) → mi_H → Prop} (n sl : Nat) (f : Nat → mi_C) {l1 : Nat} {l2 : Int32} {o3 : Option Value} {o4 : Option Value} (h5 : mi_W d 167 103 [some (.ref l1), some (.int l2), o3, o4] [.int 1] (n, sl, f) Q) : mi_W d 167 98 [some (.ref l1), some (.int l2), o3, o4] [] (n, sl, f) Q := by
  refine w_iconst (v := 1) cd_167_98 (by decide) ?_
  exact w_goto cd_167_99 (by decide) h5
theorem b_167_102 {d : Nat} {Q : (Option Value ⊕ Nat) → mi_H → Prop} (n sl : Nat) (f : Nat → mi_C) {l1 : Nat} {l2 : Int32} {o3 : Option Value} {o4 : Option Value} (h5 : mi_W d 167 103 [some (.ref l1), some (.int l2), o3, o4] [.int 0] (n, sl, f) Q) : mi_W d 167 102 [some (.ref l1), some (.int l2), o3, o4] [] (n, sl, f) Q := by
  refine w_iconst (v := 0) cd_167_102 (by decide) ?_
  exact h5
theorem b_167_103 {d : Nat} {Q : (Option Value ⊕ Nat) → mi_H → Prop} (n sl : Nat) (f : Nat → mi_C) {l1 : Nat} {l2 : Int32} {o3 : Option Value} {o4 : Option Value} {s5 : Int32} (h6 : s5 = 0 ∨ s5 = 1) (h7 : Q (.inl (some (.int s5))) (n, sl, f)) : mi_W d 167 103 [some (.ref l1), some (.int l2), o3, o4] [.int s5] (n, sl, f) Q := by
  exact w_ireturn_z cd_167_103 (by decide +kernel) h6 h7
theorem b_167_104 {d : Nat} {Q : (Option Value ⊕ Nat) → mi_H → Prop} (n sl : Nat) (f : Nat → mi_C) {l1 : Nat} {l2 : Int32} {o3 : Option Value} {o4 : Option Value} {fs5 : List Value} {x8 : Nat} {fs10 : List Value} (h6 : f l1 = .inr (12, fs5)) (h7 : l1 < n) (h9 : fs5[13]? = some (.ref x8)) (h11 : f l1 = .inr (12, fs10)) (h12 : l1 < n) (h13 : mi_W d 162 0 (mi_en 5 [.ref l1]) [] (n, sl, f) (mi_Kc d 167 110 [some (.ref l1), some (.int l2), o3, o4] [.int l2, .ref x8] Q)) : mi_W (d + 1) 167 104 [some (.ref l1), some (.int l2), o3, o4] [] (n, sl, f) Q := by
  refine w_aload_n cd_167_104 rfl ?_
  refine w_getfield cd_167_105 (show mt_f 12 80 = some (12, 13) by decide +kernel) h6 h7 h9 ?_
  refine w_iload_n cd_167_108 rfl ?_
  refine w_aload_n cd_167_109 rfl ?_
  exact w_invokevirtual cd_167_110 (show mt_m 12 416 = some (162, 0) by decide +kernel) (rest := [.int l2, .ref x8]) rfl (as := [.ref l1]) rfl h11 (Or.inl h12) ⟨Nat.le_of_ble_eq_true rfl, Nat.le_of_ble_eq_true rfl, Nat.le_of_ble_eq_true rfl⟩ h13
theorem b_167_113 {d : Nat} {Q : (Option Value ⊕ Nat) → mi_H → Prop} (n sl : Nat) (f : Nat → mi_C) {l1 : Nat} {l2 : Int32} {o3 : Option Value} {o4 : Option Value} {s5 : Int32} {s6 : Int32} {s7 : Nat} (m8 i8 : Nat) (g8 : Nat → Int32) (h9 : f s7 = .inl (0, m8, .inl g8)) (h10 : s7 < n) (h11 : mi_ix s6 m8 i8) (h12 : s5 < (0 : Int32) → mi_W d 167 132 [some (.ref l1), some (.int l2), o3, o4] [] (n, sl, (va_up f s7 (.inl (0, m8, .inl (upd g8 i8 s5))))) Q) (h13 : ¬ (s5 < (0 : Int32)) → mi_W d 167 118 [some (.ref l1), some (.int l2), o3, o4] [] (n, sl, (va_up f s7 (.inl (0, m8, .inl (upd g8 i8 s5))))) Q) : mi_W d 167 113 [some (.ref l1), some (.int l2), o3, o4] [.int s5, .int s6, .ref s7] (n, sl, f) Q := by
  refine w_dup_x2_iir cd_167_113 ?_
  refine w_iastore cd_167_114 h9 h10 h11 ?_
  exact w_iflt cd_167_115 (by decide) h12 h13
theorem b_167_118 {d : Nat} {Q : (Option Value ⊕ Nat) → mi_H → Prop} (n sl : Nat) (f : Nat → mi_C) {l1 : Nat} {l2 : Int32} {o3 : Option Value} {o4 : Option Value} {fs5 : List Value} (h6 : f l1 = .inr (12, fs5)) (h7 : l1 < n) (h8 : mi_W d 151 0 (mi_en 2 [.ref l1, .ref (mi_SC + 1 + 2 * 51)]) [] (n, sl, f) (mi_Kc d 167 123 [some (.ref l1), some (.int l2), o3, o4] [.ref l1] Q)) : mi_W (d + 1) 167 118 [some (.ref l1), some (.int l2), o3, o4] [] (n, sl, f) Q := by
  refine w_aload_n cd_167_118 rfl ?_
  refine w_aload_n cd_167_119 rfl ?_
  refine w_ldc_w (n := 51) cd_167_120 (by decide +kernel) ?_
  exact w_invokevirtual cd_167_123 (show mt_m 12 375 = some (151, 0) by decide +kernel) (rest := [.ref l1]) rfl (as := [.ref l1, .ref (mi_SC + 1 + 2 * 51)]) rfl h6 (Or.inl h7) ⟨Nat.le_of_ble_eq_true rfl, Nat.le_of_ble_eq_true rfl, Nat.le_of_ble_eq_true rfl⟩ h8
theorem b_167_126 {d : Nat} {Q : (Option Value ⊕ Nat) → mi_H → Prop} (n sl : Nat) (f : Nat → mi_C) {l1 : Nat} {l2 : Int32} {o3 : Option Value} {o4 : Option Value} {s5 : Int32} {s6 : Nat} {fs7 : List Value} (h8 : f s6 = .inr (12, fs7)) (h9 : s6 < n) (h10 : mi_W d 153 0 (mi_en 2 [.ref s6, .int s5]) [] (n, sl, f) (mi_Kc d 167 126 [some (.ref l1), some (.int l2), o3, o4] [] Q)) : mi_W (d + 1) 167 126 [some (.ref l1), some (.int l2), o3, o4] [.int s5, .ref s6] (n, sl, f) Q := by
  exact w_invokevirtual cd_167_126 (show mt_m 12 383 = some (153, 0) by decide +kernel) (rest := []) rfl (as := [.ref s6, .int s5]) rfl h8 (Or.inl h9) ⟨Nat.le_of_ble_eq_true rfl, Nat.le_of_ble_eq_true rfl, Nat.le_of_ble_eq_true rfl⟩ h10
theorem b_167_129 {d : Nat} {Q : (Option Value ⊕ Nat) → mi_H → Prop} (n sl : Nat) (f : Nat → mi_C) {l1 : Nat} {l2 : Int32} {o3 : Option Value} {o4 : Option Value} {s5 : Int32} (h6 : ¬ s5 = (0 : Int32) → mi_W d 167 134 [some (.ref l1), some (.int l2), o3, o4] [] (n, sl, f) Q) (h7 : ¬ (¬ s5 = (0 : Int32)) → mi_W d 167 132 [some (.ref l1), some (.int l2), o3, o4] [] (n, sl, f) Q) : mi_W d 167 129 [some (.ref l1), some (.int l2), o3, o4] [.int s5] (n, sl, f) Q := by
  exact w_ifne cd_167_129 (by decide) h6 h7
theorem b_167_132 {d : Nat} {Q : (Option Value ⊕ Nat) → mi_H → Prop} (n sl : Nat) (f : Nat → mi_C) {l1 : Nat} {l2 : Int32} {o3 : Option Value} {o4 : Option Value} (h5 : Q (.inl (some (.int 0))) (n, sl, f)) : mi_W d 167 132 [some (.ref l1), some (.int l2), o3, o4] [] (n, sl, f) Q := by
  refine w_iconst (v := 0) cd_167_132 (by decide) ?_
  exact w_ireturn_z cd_167_133 (by decide +kernel) (by decide) h5
theorem b_167_134 {d : Nat} {Q : (Option Value ⊕ Nat) → mi_H → Prop} (n sl : Nat) (f : Nat → mi_C) {l1 : Nat} {l2 : Int32} {o3 : Option Value} {o4 : Option Value} {fs5 : List Value} {x8 : Nat} {fs10 : List Value} {x13 : Int32} (m15 i15 : Nat) (g15 : Nat → Int32) {fs19 : List Value} {x22 : Nat} (m24 i24 : Nat) (g24 : Nat → Int32) (h6 : f l1 = .inr (12, fs5)) (h7 : l1 < n) (h9 : fs5[40]? = some (.ref x8)) (h11 : f l1 = .inr (12, fs10)) (h12 : l1 < n) (h14 : fs10[23]? = some (.int x13)) (h16 : f x8 = .inl (0, m15, .inl g15)) (h17 : x8 < n) (h18 : mi_ix l2 m15 i15) (h20 : (va_up f x8 (.inl (0, m15, .inl (upd g15 i15 x13)))) l1 = .inr (12, fs19)) (h21 : l1 < n) (h23 : fs19[18]? = some (.ref x22)) (h25 : (va_up f x8 (.inl (0, m15, .inl (upd g15 i15 x13)))) x22 = .inl (0, m24, .inl g24)) (h26 : x22 < n) (h27 : mi_ix l2 m24 i24) (h28 : mi_W d 167 151 [some (.ref l1), some (.int l2), o3, o4] [] (n, sl, (va_up (va_up f x8 (.inl (0, m15, .inl (upd g15 i15 x13)))) x22 (.inl (0, m24, .inl (upd g24 i24 0))))) Q) : mi_W d 167 134 [some (.ref l1), some (.int l2), o3, o4] [] (n, sl, f) Q := by
  refine w_aload_n cd_167_134 rfl ?_
  refine w_getfield cd_167_135 (show mt_f 12 141 = some (12, 40) by decide +kernel) h6 h7 h9 ?_
  refine w_iload_n cd_167_138 rfl ?_
  refine w_aload_n cd_167_139 rfl ?_
  refine w_getfield cd_167_140 (show mt_f 12 340 = some (12, 23) by decide +kernel) h11 h12 h14 ?_
  refine w_iastore cd_167_143 h16 h17 h18 ?_
  refine w_aload_n cd_167_144 rfl ?_
  refine w_getfield cd_167_145 (show mt_f 12 95 = some (12, 18) by decide +kernel) h20 h21 h23 ?_
  refine w_iload_n cd_167_148 rfl ?_
  refine w_iconst (v := 0) cd_167_149 (by decide) ?_
  refine w_iastore cd_167_150 h25 h26 h27 ?_
  exact h28
theorem b_167_151 {d : Nat} {Q : (Option Value ⊕ Nat) → mi_H → Prop} (n sl : Nat) (f : Nat → mi_C) {l1 : Nat} {l2 : Int32} {o3 : Option Value} {o4 : Option Value} {fs5 : List Value} {x8 : Int32} (h6 : f l1 = .inr (12, fs5)) (h7 : l1 < n) (h9 : fs5[8]? = some (.int x8)) (h10 : x8 = 2 → mi_W d 167 168 [some (.ref l1), some (.int l2), o3, o4] [] (n, sl, f) Q) (h11 : ¬ (x8 = 2) → mi_W d 167 159 [some (.ref l1), some (.int l2), o3, o4] [] (n, sl, f) Q) : mi_W d 167 151 [some (.ref l1), some (.int l2), o3, o4] [] (n, sl, f) Q := by
  refine w_aload_n cd_167_151 rfl ?_
  refine w_getfield cd_167_152 (show mt_f 12 310 = some (12, 8) by decide +kernel) h6 h7 h9 ?_
  refine w_iconst (v := 2) cd_167_155 (by decide) ?_
  exact w_if_icmpeq cd_167_156 (by decide) h10 h11
theorem b_167_159 {d : Nat} {Q : (Option Value ⊕ Nat) → mi_H → Prop} (n sl : Nat) (f : Nat → mi_C) {l1 : Nat} {l2 : Int32} {o3 : Option Value} {o4 : Option Value} {fs5 : List Value} {x8 : Int32} {fs10 : List Value} (h6 : f l1 = .inr (12, fs5)) (h7 : l1 < n) (h9 : fs5[9]? = some (.int x8)) (h11 : f l1 = .inr (12, fs10)) (h12 : l1 < n) (h13 : mi_W d 141 0 (mi_en 2 [.ref l1, .int x8]) [] (n, sl, f) (mi_Kc d 167 164 [some (.ref l1), some (.int l2), o3, o4] [] Q)) : mi_W (d + 1) 167 159 [some (.ref l1), some (.int l2), o3, o4] [] (n, sl, f) Q := by
  refine w_aload_n cd_167_159 rfl ?_
  refine w_aload_n cd_167_160 rfl ?_
  refine w_getfield cd_167_161 (show mt_f 12 299 = some (12, 9) by decide +kernel) h6 h7 h9 ?_
  exact w_invokevirtual cd_167_164 (show mt_m 12 272 = some (141, 0) by decide +kernel) (rest := []) rfl (as := [.ref l1, .int x8]) rfl h11 (Or.inl h12) ⟨Nat.le_of_ble_eq_true rfl, Nat.le_of_ble_eq_true rfl, Nat.le_of_ble_eq_true rfl⟩ h13
theorem b_167_167 {d : Nat} {Q : (Option Value ⊕ Nat) → mi_H → Prop} (n sl : Nat) (f : Nat → mi_C) {l1 : Nat} {l2 : Int32} {o3 : Option Value} {o4 : Option Value} {s5 : Int32} (h6 : s5 = 0 ∨ s5 = 1) (h7 : Q (.inl (some (.int s5))) (n, sl, f)) : mi_W d 167 167 [some (.ref l1), some (.int l2), o3, o4] [.int s5] (n, sl, f) Q := by
  exact w_ireturn_z cd_167_167 (by decide +kernel) h6 h7
theorem b_167_168 {d : Nat} {Q : (Option Value ⊕ Nat) → mi_H → Prop} (n sl : Nat) (f : Nat → mi_C) {l1 : Nat} {l2 : Int32} {o3 : Option Value} {o4 : Option Value} {fs5 : List Value} {x8 : Int64} {fs10 : List Value} (h6 : f l1 = .inr (12, fs5)) (h7 : l1 < n) (h9 : fs5[11]? = some (.long x8)) (h11 : f l1 = .inr (12, fs10)) (h12 : l1 < n) (h13 : mi_W d 143 0 (mi_en 4 [.ref l1]) [] (n, sl, f) (mi_Kc d 167 174 [some (.ref l1), some (.int l2), some (.long x8), none] [] Q)) : mi_W (d + 1) 167 168 [some (.ref l1), some (.int l2), o3, o4] [] (n, sl, f) Q := by
  refine w_aload_n cd_167_168 rfl ?_
  refine w_getfield cd_167_169 (show mt_f 12 327 = some (12, 11) by decide +kernel) h6 h7 h9 ?_
  refine w_lstore_n (ls' := [some (.ref l1), some (.int l2), some (.long x8), none]) cd_167_172 (Nat.le_of_ble_eq_true rfl) rfl ?_
  refine w_aload_n cd_167_173 rfl ?_
  exact w_invokevirtual cd_167_174 (show mt_m 12 333 = some (143, 0) by decide +kernel) (rest := []) rfl (as := [.ref l1]) rfl h11 (Or.inl h12) ⟨Nat.le_of_ble_eq_true rfl, Nat.le_of_ble_eq_true rfl, Nat.le_of_ble_eq_true rfl⟩ h13
theorem b_167_177 {d : Nat} {Q : (Option Value ⊕ Nat) → mi_H → Prop} (n sl : Nat) (f : Nat → mi_C) {l1 : Nat} {l2 : Int32} {l3 : Int64} {s4 : Int32} (h5 : ¬ s4 = (0 : Int32) → mi_W d 167 182 [some (.ref l1), some (.int l2), some (.long l3), none] [] (n, sl, f) Q) (h6 : ¬ (¬ s4 = (0 : Int32)) → mi_W d 167 180 [some (.ref l1), some (.int l2), some (.long l3), none] [] (n, sl, f) Q) : mi_W d 167 177 [some (.ref l1), some (.int l2), some (.long l3), none] [.int s4] (n, sl, f) Q := by
  exact w_ifne cd_167_177 (by decide) h5 h6
theorem b_167_180 {d : Nat} {Q : (Option Value ⊕ Nat) → mi_H → Prop} (n sl : Nat) (f : Nat → mi_C) {l1 : Nat} {l2 : Int32} {l3 : Int64} (h4 : Q (.inl (some (.int 0))) (n, sl, f)) : mi_W d 167 180 [some (.ref l1), some (.int l2), some (.long l3), none] [] (n, sl, f) Q := by
  refine w_iconst (v := 0) cd_167_180 (by decide) ?_
  exact w_ireturn_z cd_167_181 (by decide +kernel) (by decide) h4
theorem b_167_182 {d : Nat} {Q : (Option Value ⊕ Nat) → mi_H → Prop} (n sl : Nat) (f : Nat → mi_C) {l1 : Nat} {l2 : Int32} {l3 : Int64} {fs4 : List Value} {x7 : Int32} (h5 : f l1 = .inr (12, fs4)) (h6 : l1 < n) (h8 : fs4[8]? = some (.int x7)) (h9 : ¬ x7 = 2 → mi_W d 167 199 [some (.ref l1), some (.int l2), some (.long l3), none] [] (n, sl, f) Q) (h10 : ¬ (¬ x7 = 2) → mi_W d 167 190 [some (.ref l1), some (.int l2), some (.long l3), none] [] (n, sl, f) Q) : mi_W d 167 182 [some (.ref l1), some (.int l2), some (.long l3), none] [] (n, sl, f) Q := by
  refine w_aload_n cd_167_182 rfl ?_
  refine w_getfield cd_167_183 (show mt_f 12 310 = some (12, 8) by decide +kernel) h5 h6 h8 ?_
  refine w_iconst (v := 2) cd_167_186 (by decide) ?_
  exact w_if_icmpne cd_167_187 (by decide) h9 h10
theorem b_167_190 {d : Nat} {Q : (Option Value ⊕ Nat) → mi_H → Prop} (n sl : Nat) (f : Nat → mi_C) {l1 : Nat} {l2 : Int32} {l3 : Int64} {fs4 : List Value} {x7 : Int64} (h5 : f l1 = .inr (12, fs4)) (h6 : l1 < n) (h8 : fs4[11]? = some (.long x7)) (h9 : (0 : Int32) ≤ (lg_cmp x7 l3) → mi_W d 167 208 [some (.ref l1), some (.int l2), some (.long l3), none] [] (n, sl, f) Q) (h10 : ¬ ((0 : Int32) ≤ (lg_cmp x7 l3)) → mi_W d 167 199 [some (.ref l1), some (.int l2), some (.long l3), none] [] (n, sl, f) Q) : mi_W d 167 190 [some (.ref l1), some (.int l2), some (.long l3), none] [] (n, sl, f) Q := by
  refine w_aload_n cd_167_190 rfl ?_
  refine w_getfield cd_167_191 (show mt_f 12 327 = some (12, 11) by decide +kernel) h5 h6 h8 ?_
  refine w_lload_n cd_167_194 rfl ?_
  refine w_lcmp cd_167_195 ?_
  exact w_ifge cd_167_196 (by decide) h9 h10
theorem b_167_199 {d : Nat} {Q : (Option Value ⊕ Nat) → mi_H → Prop} (n sl : Nat) (f : Nat → mi_C) {l1 : Nat} {l2 : Int32} {l3 : Int64} {fs4 : List Value} {x7 : Int32} {fs9 : List Value} (h5 : f l1 = .inr (12, fs4)) (h6 : l1 < n) (h8 : fs4[9]? = some (.int x7)) (h10 : f l1 = .inr (12, fs9)) (h11 : l1 < n) (h12 : mi_W d 141 0 (mi_en 2 [.ref l1, .int x7]) [] (n, sl, f) (mi_Kc d 167 204 [some (.ref l1), some (.int l2), some (.long l3), none] [] Q)) : mi_W (d + 1) 167 199 [some (.ref l1), some (.int l2), some (.long l3), none] [] (n, sl, f) Q := by
  refine w_aload_n cd_167_199 rfl ?_
  refine w_aload_n cd_167_200 rfl ?_
  refine w_getfield cd_167_201 (show mt_f 12 299 = some (12, 9) by decide +kernel) h5 h6 h8 ?_
  exact w_invokevirtual cd_167_204 (show mt_m 12 272 = some (141, 0) by decide +kernel) (rest := []) rfl (as := [.ref l1, .int x7]) rfl h10 (Or.inl h11) ⟨Nat.le_of_ble_eq_true rfl, Nat.le_of_ble_eq_true rfl, Nat.le_of_ble_eq_true rfl⟩ h12
theorem b_167_207 {d : Nat} {Q : (Option Value ⊕ Nat) → mi_H → Prop} (n sl : Nat) (f : Nat → mi_C) {l1 : Nat} {l2 : Int32} {l3 : Int64} {s4 : Int32} (h5 : s4 = 0 ∨ s4 = 1) (h6 : Q (.inl (some (.int s4))) (n, sl, f)) : mi_W d 167 207 [some (.ref l1), some (.int l2), some (.long l3), none] [.int s4] (n, sl, f) Q := by
  exact w_ireturn_z cd_167_207 (by decide +kernel) h5 h6
theorem b_167_208 {d : Nat} {Q : (Option Value ⊕ Nat) → mi_H → Prop} (n sl : Nat) (f : Nat → mi_C) {l1 : Nat} {l2 : Int32} {l3 : Int64} {fs4 : List Value} {x7 : Nat} {fs9 : List Value} {x12 : Int32} (m14 i14 : Nat) (g14 : Nat → Int64) {fs18 : List Value} {x21 : Nat} {fs23 : List Value} {x26 : Int32} {fs28 : List Value} {fs32 : List Value} {x35 : Int64} (m37 i37 : Nat) (g37 : Nat → Int64) {fs41 : List Value} {x44 : Nat} (m46 i46 : Nat) (g46 : Nat → Int32) (m50 i50 : Nat) (g50 : Nat → Int32) {fs54 : List Value} (h5 : f l1 = .inr (12, fs4)) (h6 : l1 < n) (h8 : fs4[28]? = some (.ref x7)) (h10 : f l1 = .inr (12, fs9)) (h11 : l1 < n) (h13 : fs9[23]? = some (.int x12)) (h15 : f x7 = .inl (3, m14, .inr (.inl g14))) (h16 : x7 < n) (h17 : mi_ix x12 m14 i14) (h19 : (va_up f x7 (.inl (3, m14, .inr (.inl (vp_updL g14 i14 l3))))) l1 = .inr (12, fs18)) (h20 : l1 < n) (h22 : fs18[29]? = some (.ref x21)) (h24 : (va_up f x7 (.inl (3, m14, .inr (.inl (vp_updL g14 i14 l3))))) l1 = .inr (12, fs23)) (h25 : l1 < n) (h27 : fs23[23]? = some (.int x26)) (h29 : (va_up f x7 (.inl (3, m14, .inr (.inl (vp_updL g14 i14 l3))))) l1 = .inr (12, fs28)) (h30 : l1 < n) (h31 : 23 < fs28.length) (h33 : (va_up (va_up f x7 (.inl (3, m14, .inr (.inl (vp_updL g14 i14 l3))))) l1 (.inr (12, fs28.set 23 (.int (x26 + 1))))) l1 = .inr (12, fs32)) (h34 : l1 < n) (h36 : fs32[11]? = some (.long x35)) (h38 : (va_up (va_up f x7 (.inl (3, m14, .inr (.inl (vp_updL g14 i14 l3))))) l1 (.inr (12, fs28.set 23 (.int (x26 + 1))))) x21 = .inl (3, m37, .inr (.inl g37))) (h39 : x21 < n) (h40 : mi_ix x26 m37 i37) (h42 : (va_up (va_up (va_up f x7 (.inl (3, m14, .inr (.inl (vp_updL g14 i14 l3))))) l1 (.inr (12, fs28.set 23 (.int (x26 + 1))))) x21 (.inl (3, m37, .inr (.inl (vp_updL g37 i37 x35))))) l1 = .inr (12, fs41)) (h43 : l1 < n) (h45 : fs41[18]? = some (.ref x44)) (h47 : (va_up (va_up (va_up f x7 (.inl (3, m14, .inr (.inl (vp_updL g14 i14 l3))))) l1 (.inr (12, fs28.set 23 (.int (x26 + 1))))) x21 (.inl (3, m37, .inr (.inl (vp_updL g37 i37 x35))))) x44 = .inl (0, m46, .inl g46)) (h48 : x44 < n ∨ x44 = mi_SC) (h49 : mi_ix l2 m46 i46) (h51 : (va_up (va_up (va_up f x7 (.inl (3, m14, .inr (.inl (vp_updL g14 i14 l3))))) l1 (.inr (12, fs28.set 23 (.int (x26 + 1))))) x21 (.inl (3, m37, .inr (.inl (vp_updL g37 i37 x35))))) x44 = .inl (0, m50, .inl g50)) (h52 : x44 < n) (h53 : mi_ix l2 m50 i50) (h55 : (va_up (va_up (va_up (va_up f x7 (.inl (3, m14, .inr (.inl (vp_updL g14 i14 l3))))) l1 (.inr (12, fs28.set 23 (.int (x26 + 1))))) x21 (.inl (3, m37, .inr (.inl (vp_updL g37 i37 x35))))) x44 (.inl (0, m50, .inl (upd g50 i50 ((g46 i46) + 1))))) l1 = .inr (12, fs54)) (h56 : l1 < n) (h57 : mi_W d 143 0 (mi_en 4 [.ref l1]) [] (n, sl, (va_up (va_up (va_up (va_up f x7 (.inl (3, m14, .inr (.inl (vp_updL g14 i14 l3))))) l1 (.inr (12, fs28.set 23 (.int (x26 + 1))))) x21 (.inl (3, m37, .inr (.inl (vp_updL g37 i37 x35))))) x44 (.inl (0, m50, .inl (upd g50 i50 ((g46 i46) + 1)))))) (mi_Kc d 167 249 [some (.ref l1), some (.int l2), some (.long l3), none] [] Q)) : mi_W (d + 1) 167 208 [some (.ref l1), some (.int l2), some (.long l3), none] [] (n, sl, f) Q := by
  refine w_aload_n cd_167_208 rfl ?_
  refine w_getfield cd_167_209 (show mt_f 12 105 = some (12, 28) by decide +kernel) h5 h6 h8 ?_
  refine w_aload_n cd_167_212 rfl ?_
  refine w_getfield cd_167_213 (show mt_f 12 340 = some (12, 23) by decide +kernel) h10 h11 h13 ?_
  refine w_lload_n cd_167_216 rfl ?_
  refine w_lastore cd_167_217 h15 h16 h17 ?_
  refine w_aload_n cd_167_218 rfl ?_
  refine w_getfield cd_167_219 (show mt_f 12 108 = some (12, 29) by decide +kernel) h19 h20 h22 ?_
  refine w_aload_n cd_167_222 rfl ?_
  refine w_dup_r cd_167_223 ?_
  refine w_getfield cd_167_224 (show mt_f 12 340 = some (12, 23) by decide +kernel) h24 h25 h27 ?_
  refine w_dup_x1_ir cd_167_227 ?_
  refine w_iconst (v := 1) cd_167_228 (by decide) ?_
  refine w_iadd cd_167_229 ?_
  refine w_putfield (w := .int (x26 + 1)) cd_167_230 (show mt_f 12 340 = some (12, 23) by decide +kernel) h29 h30 ⟨h31, rfl, Or.inl (by decide)⟩ ?_
  refine w_aload_n cd_167_233 rfl ?_
  refine w_getfield cd_167_234 (show mt_f 12 327 = some (12, 11) by decide +kernel) h33 h34 h36 ?_
  refine w_lastore cd_167_237 h38 h39 h40 ?_
  refine w_aload_n cd_167_238 rfl ?_
  refine w_getfield cd_167_239 (show mt_f 12 95 = some (12, 18) by decide +kernel) h42 h43 h45 ?_
  refine w_iload_n cd_167_242 rfl ?_
  refine w_dup2_ir cd_167_243 ?_
  refine w_iaload cd_167_244 h47 h48 h49 ?_
  refine w_iconst (v := 1) cd_167_245 (by decide) ?_
  refine w_iadd cd_167_246 ?_
  refine w_iastore cd_167_247 h51 h52 h53 ?_
  refine w_aload_n cd_167_248 rfl ?_
  exact w_invokevirtual cd_167_249 (show mt_m 12 333 = some (143, 0) by decide +kernel) (rest := []) rfl (as := [.ref l1]) rfl h55 (Or.inl h56) ⟨Nat.le_of_ble_eq_true rfl, Nat.le_of_ble_eq_true rfl, Nat.le_of_ble_eq_true rfl⟩ h57
theorem b_167_252 {d : Nat} {Q : (Option Value ⊕ Nat) → mi_H → Prop} (n sl : Nat) (f : Nat → mi_C) {l1 : Nat} {l2 : Int32} {l3 : Int64} {s4 : Int32} (h5 : ¬ s4 = (0 : Int32) → mi_W d 167 257 [some (.ref l1), some (.int l2), some (.long l3), none] [] (n, sl, f) Q) (h6 : ¬ (¬ s4 = (0 : Int32)) → mi_W d 167 255 [some (.ref l1), some (.int l2), some (.long l3), none] [] (n, sl, f) Q) : mi_W d 167 252 [some (.ref l1), some (.int l2), some (.long l3), none] [.int s4] (n, sl, f) Q := by
  exact w_ifne cd_167_252 (by decide) h5 h6
theorem b_167_255 {d : Nat} {Q : (Option Value ⊕ Nat) → mi_H → Prop} (n sl : Nat) (f : Nat → mi_C) {l1 : Nat} {l2 : Int32} {l3 : Int64} (h4 : Q (.inl (some (.int 0))) (n, sl, f)) : mi_W d 167 255 [some (.ref l1), some (.int l2), some (.long l3), none] [] (n, sl, f) Q := by
  refine w_iconst (v := 0) cd_167_255 (by decide) ?_
  exact w_ireturn_z cd_167_256 (by decide +kernel) (by decide) h4
theorem b_167_257 {d : Nat} {Q : (Option Value ⊕ Nat) → mi_H → Prop} (n sl : Nat) (f : Nat → mi_C) {l1 : Nat} {l2 : Int32} {l3 : Int64} {fs4 : List Value} (h5 : f l1 = .inr (12, fs4)) (h6 : l1 < n) (h7 : mi_W d 151 0 (mi_en 2 [.ref l1, .ref (mi_SC + 1 + 2 * 52)]) [] (n, sl, f) (mi_Kc d 167 261 [some (.ref l1), some (.int l2), some (.long l3), none] [] Q)) : mi_W (d + 1) 167 257 [some (.ref l1), some (.int l2), some (.long l3), none] [] (n, sl, f) Q := by
  refine w_aload_n cd_167_257 rfl ?_
  refine w_ldc_w (n := 52) cd_167_258 (by decide +kernel) ?_
  exact w_invokevirtual cd_167_261 (show mt_m 12 375 = some (151, 0) by decide +kernel) (rest := []) rfl (as := [.ref l1, .ref (mi_SC + 1 + 2 * 52)]) rfl h5 (Or.inl h6) ⟨Nat.le_of_ble_eq_true rfl, Nat.le_of_ble_eq_true rfl, Nat.le_of_ble_eq_true rfl⟩ h7
theorem b_167_264 {d : Nat} {Q : (Option Value ⊕ Nat) → mi_H → Prop} (n sl : Nat) (f : Nat → mi_C) {l1 : Nat} {l2 : Int32} {l3 : Int64} {s4 : Int32} (h5 : s4 = (0 : Int32) → mi_W d 167 151 [some (.ref l1), some (.int l2), some (.long l3), none] [] (n, sl, f) Q) (h6 : ¬ (s4 = (0 : Int32)) → mi_W d 167 267 [some (.ref l1), some (.int l2), some (.long l3), none] [] (n, sl, f) Q) : mi_W d 167 264 [some (.ref l1), some (.int l2), some (.long l3), none] [.int s4] (n, sl, f) Q := by
  exact w_ifeq cd_167_264 (by decide) h5 h6
theorem b_167_267 {d : Nat} {Q : (Option Value ⊕ Nat) → mi_H → Prop} (n sl : Nat) (f : Nat → mi_C) {l1 : Nat} {l2 : Int32} {l3 : Int64} {fs4 : List Value} (h5 : f l1 = .inr (12, fs4)) (h6 : l1 < n) (h7 : mi_W d 143 0 (mi_en 4 [.ref l1]) [] (n, sl, f) (mi_Kc d 167 268 [some (.ref l1), some (.int l2), some (.long l3), none] [] Q)) : mi_W (d + 1) 167 267 [some (.ref l1), some (.int l2), some (.long l3), none] [] (n, sl, f) Q := by
  refine w_aload_n cd_167_267 rfl ?_
  exact w_invokevirtual cd_167_268 (show mt_m 12 333 = some (143, 0) by decide +kernel) (rest := []) rfl (as := [.ref l1]) rfl h5 (Or.inl h6) ⟨Nat.le_of_ble_eq_true rfl, Nat.le_of_ble_eq_true rfl, Nat.le_of_ble_eq_true rfl⟩ h7
theorem b_167_271 {d : Nat} {Q : (Option Value ⊕ Nat) → mi_H → Prop} (n sl : Nat) (f : Nat → mi_C) {l1 : Nat} {l2 : Int32} {l3 : Int64} {s4 : Int32} (h5 : s4 = 0 ∨ s4 = 1) (h6 : Q (.inl (some (.int s4))) (n, sl, f)) : mi_W d 167 271 [some (.ref l1), some (.int l2), some (.long l3), none] [.int s4] (n, sl, f) Q := by
  exact w_ireturn_z cd_167_271 (by decide +kernel) h5 h6
/-! MarloweHostModel$State.begin()V -/
set_option maxRecDepth 100000 in
theorem mq_168 : mt_q 168 = my_168 := rfl
set_option maxRecDepth 100000 in
theorem ci_168 : mt_inc 0 my_168.cd = true := by decide +kernel
theorem cd_168_0 : mt_cd 168 0 = some (.aload_n 0) := mt_cd_of (q := (0, .aload_n 0, 1)) mq_168 ci_168 (List.mem_of_getElem? (i := 0) rfl)
theorem cd_168_1 : mt_cd 168 1 = some (.iconst 0) := mt_cd_of (q := (1, .iconst 0, 1)) mq_168 ci_168 (List.mem_of_getElem? (i := 1) rfl)
theorem cd_168_2 : mt_cd 168 2 = some (.putfield 28) := mt_cd_of (q := (2, .putfield 28, 3)) mq_168 ci_168 (List.mem_of_getElem? (i := 2) rfl)
theorem cd_168_5 : mt_cd 168 5 = some (.aload_n 0) := mt_cd_of (q := (5, .aload_n 0, 1)) mq_168 ci_168 (List.mem_of_getElem? (i := 3) rfl)
theorem cd_168_6 : mt_cd 168 6 = some (.lconst 0) := mt_cd_of (q := (6, .lconst 0, 1)) mq_168 ci_168 (List.mem_of_getElem? (i := 4) rfl)
theorem cd_168_7 : mt_cd 168 7 = some (.putfield 32) := mt_cd_of (q := (7, .putfield 32, 3)) mq_168 ci_168 (List.mem_of_getElem? (i := 5) rfl)
theorem cd_168_10 : mt_cd 168 10 = some (.iconst 0) := mt_cd_of (q := (10, .iconst 0, 1)) mq_168 ci_168 (List.mem_of_getElem? (i := 6) rfl)
theorem cd_168_11 : mt_cd 168 11 = some (.istore_n 1) := mt_cd_of (q := (11, .istore_n 1, 1)) mq_168 ci_168 (List.mem_of_getElem? (i := 7) rfl)
theorem cd_168_12 : mt_cd 168 12 = some (.iload_n 1) := mt_cd_of (q := (12, .iload_n 1, 1)) mq_168 ci_168 (List.mem_of_getElem? (i := 8) rfl)
theorem cd_168_13 : mt_cd 168 13 = some (.bipush 32) := mt_cd_of (q := (13, .bipush 32, 2)) mq_168 ci_168 (List.mem_of_getElem? (i := 9) rfl)
theorem cd_168_15 : mt_cd 168 15 = some (.if_icmp .ge 16) := mt_cd_of (q := (15, .if_icmp .ge 16, 3)) mq_168 ci_168 (List.mem_of_getElem? (i := 10) rfl)
theorem cd_168_18 : mt_cd 168 18 = some (.aload_n 0) := mt_cd_of (q := (18, .aload_n 0, 1)) mq_168 ci_168 (List.mem_of_getElem? (i := 11) rfl)
theorem cd_168_19 : mt_cd 168 19 = some (.getfield 9) := mt_cd_of (q := (19, .getfield 9, 3)) mq_168 ci_168 (List.mem_of_getElem? (i := 12) rfl)
theorem cd_168_22 : mt_cd 168 22 = some (.iload_n 1) := mt_cd_of (q := (22, .iload_n 1, 1)) mq_168 ci_168 (List.mem_of_getElem? (i := 13) rfl)
theorem cd_168_23 : mt_cd 168 23 = some (.lconst 0) := mt_cd_of (q := (23, .lconst 0, 1)) mq_168 ci_168 (List.mem_of_getElem? (i := 14) rfl)
theorem cd_168_24 : mt_cd 168 24 = some (.lastore) := mt_cd_of (q := (24, .lastore, 1)) mq_168 ci_168 (List.mem_of_getElem? (i := 15) rfl)
theorem cd_168_25 : mt_cd 168 25 = some (.iinc 1 1) := mt_cd_of (q := (25, .iinc 1 1, 3)) mq_168 ci_168 (List.mem_of_getElem? (i := 16) rfl)
theorem cd_168_28 : mt_cd 168 28 = some (.goto (-16)) := mt_cd_of (q := (28, .goto (-16), 3)) mq_168 ci_168 (List.mem_of_getElem? (i := 17) rfl)
theorem cd_168_31 : mt_cd 168 31 = some (.iconst 0) := mt_cd_of (q := (31, .iconst 0, 1)) mq_168 ci_168 (List.mem_of_getElem? (i := 18) rfl)
theorem cd_168_32 : mt_cd 168 32 = some (.istore_n 1) := mt_cd_of (q := (32, .istore_n 1, 1)) mq_168 ci_168 (List.mem_of_getElem? (i := 19) rfl)
theorem cd_168_33 : mt_cd 168 33 = some (.iload_n 1) := mt_cd_of (q := (33, .iload_n 1, 1)) mq_168 ci_168 (List.mem_of_getElem? (i := 20) rfl)
theorem cd_168_34 : mt_cd 168 34 = some (.bipush 8) := mt_cd_of (q := (34, .bipush 8, 2)) mq_168 ci_168 (List.mem_of_getElem? (i := 21) rfl)
theorem cd_168_36 : mt_cd 168 36 = some (.if_icmp .ge 37) := mt_cd_of (q := (36, .if_icmp .ge 37, 3)) mq_168 ci_168 (List.mem_of_getElem? (i := 22) rfl)
theorem cd_168_39 : mt_cd 168 39 = some (.aload_n 0) := mt_cd_of (q := (39, .aload_n 0, 1)) mq_168 ci_168 (List.mem_of_getElem? (i := 23) rfl)
theorem cd_168_40 : mt_cd 168 40 = some (.getfield 15) := mt_cd_of (q := (40, .getfield 15, 3)) mq_168 ci_168 (List.mem_of_getElem? (i := 24) rfl)
theorem cd_168_43 : mt_cd 168 43 = some (.iload_n 1) := mt_cd_of (q := (43, .iload_n 1, 1)) mq_168 ci_168 (List.mem_of_getElem? (i := 25) rfl)
theorem cd_168_44 : mt_cd 168 44 = some (.lconst 0) := mt_cd_of (q := (44, .lconst 0, 1)) mq_168 ci_168 (List.mem_of_getElem? (i := 26) rfl)
theorem cd_168_45 : mt_cd 168 45 = some (.lastore) := mt_cd_of (q := (45, .lastore, 1)) mq_168 ci_168 (List.mem_of_getElem? (i := 27) rfl)
theorem cd_168_46 : mt_cd 168 46 = some (.aload_n 0) := mt_cd_of (q := (46, .aload_n 0, 1)) mq_168 ci_168 (List.mem_of_getElem? (i := 28) rfl)
theorem cd_168_47 : mt_cd 168 47 = some (.getfield 18) := mt_cd_of (q := (47, .getfield 18, 3)) mq_168 ci_168 (List.mem_of_getElem? (i := 29) rfl)
theorem cd_168_50 : mt_cd 168 50 = some (.iload_n 1) := mt_cd_of (q := (50, .iload_n 1, 1)) mq_168 ci_168 (List.mem_of_getElem? (i := 30) rfl)
theorem cd_168_51 : mt_cd 168 51 = some (.lconst 0) := mt_cd_of (q := (51, .lconst 0, 1)) mq_168 ci_168 (List.mem_of_getElem? (i := 31) rfl)
theorem cd_168_52 : mt_cd 168 52 = some (.lastore) := mt_cd_of (q := (52, .lastore, 1)) mq_168 ci_168 (List.mem_of_getElem? (i := 32) rfl)
theorem cd_168_53 : mt_cd 168 53 = some (.aload_n 0) := mt_cd_of (q := (53, .aload_n 0, 1)) mq_168 ci_168 (List.mem_of_getElem? (i := 33) rfl)
theorem cd_168_54 : mt_cd 168 54 = some (.getfield 21) := mt_cd_of (q := (54, .getfield 21, 3)) mq_168 ci_168 (List.mem_of_getElem? (i := 34) rfl)
theorem cd_168_57 : mt_cd 168 57 = some (.iload_n 1) := mt_cd_of (q := (57, .iload_n 1, 1)) mq_168 ci_168 (List.mem_of_getElem? (i := 35) rfl)
theorem cd_168_58 : mt_cd 168 58 = some (.iconst 0) := mt_cd_of (q := (58, .iconst 0, 1)) mq_168 ci_168 (List.mem_of_getElem? (i := 36) rfl)
theorem cd_168_59 : mt_cd 168 59 = some (.bastore) := mt_cd_of (q := (59, .bastore, 1)) mq_168 ci_168 (List.mem_of_getElem? (i := 37) rfl)
theorem cd_168_60 : mt_cd 168 60 = some (.aload_n 0) := mt_cd_of (q := (60, .aload_n 0, 1)) mq_168 ci_168 (List.mem_of_getElem? (i := 38) rfl)
theorem cd_168_61 : mt_cd 168 61 = some (.getfield 25) := mt_cd_of (q := (61, .getfield 25, 3)) mq_168 ci_168 (List.mem_of_getElem? (i := 39) rfl)
theorem cd_168_64 : mt_cd 168 64 = some (.iload_n 1) := mt_cd_of (q := (64, .iload_n 1, 1)) mq_168 ci_168 (List.mem_of_getElem? (i := 40) rfl)
theorem cd_168_65 : mt_cd 168 65 = some (.iconst 0) := mt_cd_of (q := (65, .iconst 0, 1)) mq_168 ci_168 (List.mem_of_getElem? (i := 41) rfl)
theorem cd_168_66 : mt_cd 168 66 = some (.bastore) := mt_cd_of (q := (66, .bastore, 1)) mq_168 ci_168 (List.mem_of_getElem? (i := 42) rfl)
theorem cd_168_67 : mt_cd 168 67 = some (.iinc 1 1) := mt_cd_of (q := (67, .iinc 1 1, 3)) mq_168 ci_168 (List.mem_of_getElem? (i := 43) rfl)
theorem cd_168_70 : mt_cd 168 70 = some (.goto (-37)) := mt_cd_of (q := (70, .goto (-37), 3)) mq_168 ci_168 (List.mem_of_getElem? (i := 44) rfl)
theorem cd_168_73 : mt_cd 168 73 = some (.return_) := mt_cd_of (q := (73, .return_, 1)) mq_168 ci_168 (List.mem_of_getElem? (i := 45) rfl)
theorem b_168_0 {d : Nat} {Q : (Option Value ⊕ Nat) → mi_H → Prop} (n sl : Nat) (f : Nat → mi_C) {l1 : Nat} {o2 : Option Value} {fs3 : List Value} {fs7 : List Value} (h4 : f l1 = .inr (13, fs3)) (h5 : l1 < n) (h6 : 0 < fs3.length) (h8 : (va_up f l1 (.inr (13, fs3.set 0 (.int 0)))) l1 = .inr (13, fs7)) (h9 : l1 < n) (h10 : 1 < fs7.length) (h11 : mi_W d 168 12 [some (.ref l1), some (.int 0)] [] (n, sl, (va_up (va_up f l1 (.inr (13, fs3.set 0 (.int 0)))) l1 (.inr (13, fs7.set 1 (.long 0))))) Q) : mi_W d 168 0 [some (.ref l1), o2] [] (n, sl, f) Q := by
  refine w_aload_n cd_168_0 rfl ?_
  refine w_iconst (v := 0) cd_168_1 (by decide) ?_
  refine w_putfield (w := .int 0) cd_168_2 (show mt_f 13 28 = some (13, 0) by decide +kernel) h4 h5 ⟨h6, rfl, Or.inl (by decide)⟩ ?_
  refine w_aload_n cd_168_5 rfl ?_
  refine w_lconst (lv := 0) cd_168_6 (by decide) ?_
  refine w_putfield (w := .long 0) cd_168_7 (show mt_f 13 32 = some (13, 1) by decide +kernel) h8 h9 ⟨h10, rfl, Or.inl (by decide)⟩ ?_
  refine w_iconst (v := 0) cd_168_10 (by decide) ?_
  refine w_istore_n (ls' := [some (.ref l1), some (.int 0)]) cd_168_11 (Nat.le_of_ble_eq_true rfl) rfl ?_
  exact h11
theorem b_168_12 {d : Nat} {Q : (Option Value ⊕ Nat) → mi_H → Prop} (n sl : Nat) (f : Nat → mi_C) {l1 : Nat} {l2 : Int32} (h3 : 32 ≤ l2 → mi_W d 168 31 [some (.ref l1), some (.int l2)] [] (n, sl, f) Q) (h4 : ¬ (32 ≤ l2) → mi_W d 168 18 [some (.ref l1), some (.int l2)] [] (n, sl, f) Q) : mi_W d 168 12 [some (.ref l1), some (.int l2)] [] (n, sl, f) Q := by
  refine w_iload_n cd_168_12 rfl ?_
  refine w_bipush (v := 32) cd_168_13 (by decide) ?_
  exact w_if_icmpge cd_168_15 (by decide) h3 h4
theorem b_168_18 {d : Nat} {Q : (Option Value ⊕ Nat) → mi_H → Prop} (n sl : Nat) (f : Nat → mi_C) {l1 : Nat} {l2 : Int32} {fs3 : List Value} {x6 : Nat} (m8 i8 : Nat) (g8 : Nat → Int64) (h4 : f l1 = .inr (13, fs3)) (h5 : l1 < n) (h7 : fs3[2]? = some (.ref x6)) (h9 : f x6 = .inl (3, m8, .inr (.inl g8))) (h10 : x6 < n) (h11 : mi_ix l2 m8 i8) (h12 : mi_W d 168 12 [some (.ref l1), some (.int (l2 + 1))] [] (n, sl, (va_up f x6 (.inl (3, m8, .inr (.inl (vp_updL g8 i8 0)))))) Q) : mi_W d 168 18 [some (.ref l1), some (.int l2)] [] (n, sl, f) Q := by
  refine w_aload_n cd_168_18 rfl ?_
  refine w_getfield cd_168_19 (show mt_f 13 9 = some (13, 2) by decide +kernel) h4 h5 h7 ?_
  refine w_iload_n cd_168_22 rfl ?_
  refine w_lconst (lv := 0) cd_168_23 (by decide) ?_
  refine w_lastore cd_168_24 h9 h10 h11 ?_
  refine w_iinc (v := 1) (ls' := [some (.ref l1), some (.int (l2 + 1))]) cd_168_25 rfl (by decide) rfl ?_
  exact w_goto cd_168_28 (by decide) h12
theorem b_168_31 {d : Nat} {Q : (Option Value ⊕ Nat) → mi_H → Prop} (n sl : Nat) (f : Nat → mi_C) {l1 : Nat} {l2 : Int32} (h3 : mi_W d 168 33 [some (.ref l1), some (.int 0)] [] (n, sl, f) Q) : mi_W d 168 31 [some (.ref l1), some (.int l2)] [] (n, sl, f) Q := by
  refine w_iconst (v := 0) cd_168_31 (by decide) ?_
  refine w_istore_n (ls' := [some (.ref l1), some (.int 0)]) cd_168_32 (Nat.le_of_ble_eq_true rfl) rfl ?_
  exact h3
theorem b_168_33 {d : Nat} {Q : (Option Value ⊕ Nat) → mi_H → Prop} (n sl : Nat) (f : Nat → mi_C) {l1 : Nat} {l2 : Int32} (h3 : 8 ≤ l2 → mi_W d 168 73 [some (.ref l1), some (.int l2)] [] (n, sl, f) Q) (h4 : ¬ (8 ≤ l2) → mi_W d 168 39 [some (.ref l1), some (.int l2)] [] (n, sl, f) Q) : mi_W d 168 33 [some (.ref l1), some (.int l2)] [] (n, sl, f) Q := by
  refine w_iload_n cd_168_33 rfl ?_
  refine w_bipush (v := 8) cd_168_34 (by decide) ?_
  exact w_if_icmpge cd_168_36 (by decide) h3 h4
theorem b_168_39 {d : Nat} {Q : (Option Value ⊕ Nat) → mi_H → Prop} (n sl : Nat) (f : Nat → mi_C) {l1 : Nat} {l2 : Int32} {fs3 : List Value} {x6 : Nat} (m8 i8 : Nat) (g8 : Nat → Int64) {fs12 : List Value} {x15 : Nat} (m17 i17 : Nat) (g17 : Nat → Int64) {fs21 : List Value} {x24 : Nat} (m26 i26 : Nat) (g26 : Nat → Int32) {fs30 : List Value} {x33 : Nat} (m35 i35 : Nat) (g35 : Nat → Int32) (h4 : f l1 = .inr (13, fs3)) (h5 : l1 < n) (h7 : fs3[3]? = some (.ref x6)) (h9 : f x6 = .inl (3, m8, .inr (.inl g8))) (h10 : x6 < n) (h11 : mi_ix l2 m8 i8) (h13 : (va_up f x6 (.inl (3, m8, .inr (.inl (vp_updL g8 i8 0))))) l1 = .inr (13, fs12)) (h14 : l1 < n) (h16 : fs12[4]? = some (.ref x15)) (h18 : (va_up f x6 (.inl (3, m8, .inr (.inl (vp_updL g8 i8 0))))) x15 = .inl (3, m17, .inr (.inl g17))) (h19 : x15 < n) (h20 : mi_ix l2 m17 i17) (h22 : (va_up (va_up f x6 (.inl (3, m8, .inr (.inl (vp_updL g8 i8 0))))) x15 (.inl (3, m17, .inr (.inl (vp_updL g17 i17 0))))) l1 = .inr (13, fs21)) (h23 : l1 < n) (h25 : fs21[5]? = some (.ref x24)) (h27 : (va_up (va_up f x6 (.inl (3, m8, .inr (.inl (vp_updL g8 i8 0))))) x15 (.inl (3, m17, .inr (.inl (vp_updL g17 i17 0))))) x24 = .inl (2, m26, .inl g26)) (h28 : x24 < n) (h29 : mi_ix l2 m26 i26) (h31 : (va_up (va_up (va_up f x6 (.inl (3, m8, .inr (.inl (vp_updL g8 i8 0))))) x15 (.inl (3, m17, .inr (.inl (vp_updL g17 i17 0))))) x24 (.inl (2, m26, .inl (upd g26 i26 (vp_nar .boolean 0))))) l1 = .inr (13, fs30)) (h32 : l1 < n) (h34 : fs30[6]? = some (.ref x33)) (h36 : (va_up (va_up (va_up f x6 (.inl (3, m8, .inr (.inl (vp_updL g8 i8 0))))) x15 (.inl (3, m17, .inr (.inl (vp_updL g17 i17 0))))) x24 (.inl (2, m26, .inl (upd g26 i26 (vp_nar .boolean 0))))) x33 = .inl (2, m35, .inl g35)) (h37 : x33 < n) (h38 : mi_ix l2 m35 i35) (h39 : mi_W d 168 33 [some (.ref l1), some (.int (l2 + 1))] [] (n, sl, (va_up (va_up (va_up (va_up f x6 (.inl (3, m8, .inr (.inl (vp_updL g8 i8 0))))) x15 (.inl (3, m17, .inr (.inl (vp_updL g17 i17 0))))) x24 (.inl (2, m26, .inl (upd g26 i26 (vp_nar .boolean 0))))) x33 (.inl (2, m35, .inl (upd g35 i35 (vp_nar .boolean 0)))))) Q) : mi_W d 168 39 [some (.ref l1), some (.int l2)] [] (n, sl, f) Q := by
  refine w_aload_n cd_168_39 rfl ?_
  refine w_getfield cd_168_40 (show mt_f 13 15 = some (13, 3) by decide +kernel) h4 h5 h7 ?_
  refine w_iload_n cd_168_43 rfl ?_
  refine w_lconst (lv := 0) cd_168_44 (by decide) ?_
  refine w_lastore cd_168_45 h9 h10 h11 ?_
  refine w_aload_n cd_168_46 rfl ?_
  refine w_getfield cd_168_47 (show mt_f 13 18 = some (13, 4) by decide +kernel) h13 h14 h16 ?_
  refine w_iload_n cd_168_50 rfl ?_
  refine w_lconst (lv := 0) cd_168_51 (by decide) ?_
  refine w_lastore cd_168_52 h18 h19 h20 ?_
  refine w_aload_n cd_168_53 rfl ?_
  refine w_getfield cd_168_54 (show mt_f 13 21 = some (13, 5) by decide +kernel) h22 h23 h25 ?_
  refine w_iload_n cd_168_57 rfl ?_
  refine w_iconst (v := 0) cd_168_58 (by decide) ?_
  refine w_bastore2 cd_168_59 h27 h28 h29 ?_
  refine w_aload_n cd_168_60 rfl ?_
  refine w_getfield cd_168_61 (show mt_f 13 25 = some (13, 6) by decide +kernel) h31 h32 h34 ?_
  refine w_iload_n cd_168_64 rfl ?_
  refine w_iconst (v := 0) cd_168_65 (by decide) ?_
  refine w_bastore2 cd_168_66 h36 h37 h38 ?_
  refine w_iinc (v := 1) (ls' := [some (.ref l1), some (.int (l2 + 1))]) cd_168_67 rfl (by decide) rfl ?_
  exact w_goto cd_168_70 (by decide) h39
theorem b_168_73 {d : Nat} {Q : (Option Value ⊕ Nat) → mi_H → Prop} (n sl : Nat) (f : Nat → mi_C) {l1 : Nat} {l2 : Int32} (h3 : Q (.inl none) (n, sl, f)) : mi_W d 168 73 [some (.ref l1), some (.int l2)] [] (n, sl, f) Q := by
  exact w_return cd_168_73 (by decide +kernel) h3
/-! MarloweHostModel.wrong()I -/
set_option maxRecDepth 100000 in
theorem mq_169 : mt_q 169 = my_169 := rfl
set_option maxRecDepth 100000 in
theorem ci_169 : mt_inc 0 my_169.cd = true := by decide +kernel
theorem cd_169_0 : mt_cd 169 0 = some (.aload_n 0) := mt_cd_of (q := (0, .aload_n 0, 1)) mq_169 ci_169 (List.mem_of_getElem? (i := 0) rfl)
theorem cd_169_1 : mt_cd 169 1 = some (.iconst 0) := mt_cd_of (q := (1, .iconst 0, 1)) mq_169 ci_169 (List.mem_of_getElem? (i := 1) rfl)
theorem cd_169_2 : mt_cd 169 2 = some (.putfield 248) := mt_cd_of (q := (2, .putfield 248, 3)) mq_169 ci_169 (List.mem_of_getElem? (i := 2) rfl)
theorem cd_169_5 : mt_cd 169 5 = some (.aload_n 0) := mt_cd_of (q := (5, .aload_n 0, 1)) mq_169 ci_169 (List.mem_of_getElem? (i := 3) rfl)
theorem cd_169_6 : mt_cd 169 6 = some (.getfield 7) := mt_cd_of (q := (6, .getfield 7, 3)) mq_169 ci_169 (List.mem_of_getElem? (i := 4) rfl)
theorem cd_169_9 : mt_cd 169 9 = some (.ireturn) := mt_cd_of (q := (9, .ireturn, 1)) mq_169 ci_169 (List.mem_of_getElem? (i := 5) rfl)
theorem b_169_0 {d : Nat} {Q : (Option Value ⊕ Nat) → mi_H → Prop} (n sl : Nat) (f : Nat → mi_C) {l1 : Nat} {fs2 : List Value} {fs6 : List Value} {x9 : Int32} (h3 : f l1 = .inr (12, fs2)) (h4 : l1 < n) (h5 : 0 < fs2.length) (h7 : (va_up f l1 (.inr (12, fs2.set 0 (.int 0)))) l1 = .inr (12, fs6)) (h8 : l1 < n) (h10 : fs6[3]? = some (.int x9)) (h11 : Q (.inl (some (.int x9))) (n, sl, (va_up f l1 (.inr (12, fs2.set 0 (.int 0)))))) : mi_W d 169 0 [some (.ref l1)] [] (n, sl, f) Q := by
  refine w_aload_n cd_169_0 rfl ?_
  refine w_iconst (v := 0) cd_169_1 (by decide) ?_
  refine w_putfield (w := .int 0) cd_169_2 (show mt_f 12 248 = some (12, 0) by decide +kernel) h3 h4 ⟨h5, rfl, Or.inl (by decide)⟩ ?_
  refine w_aload_n cd_169_5 rfl ?_
  refine w_getfield cd_169_6 (show mt_f 12 7 = some (12, 3) by decide +kernel) h7 h8 h10 ?_
  exact w_ireturn_i cd_169_9 (by decide +kernel) h11
/-! MarloweHostModel.apply(JJ)I -/
set_option maxRecDepth 100000 in
theorem mq_170 : mt_q 170 = my_170 := rfl
set_option maxRecDepth 100000 in
theorem ci_170 : mt_inc 0 my_170.cd = true := by decide +kernel
theorem cd_170_0 : mt_cd 170 0 = some (.aload_n 0) := mt_cd_of (q := (0, .aload_n 0, 1)) mq_170 ci_170 (List.mem_append_left _ (show _ ∈ my_170_0 from List.mem_of_getElem? (i := 0) rfl))
theorem cd_170_1 : mt_cd 170 1 = some (.iconst 0) := mt_cd_of (q := (1, .iconst 0, 1)) mq_170 ci_170 (List.mem_append_left _ (show _ ∈ my_170_0 from List.mem_of_getElem? (i := 1) rfl))
theorem cd_170_2 : mt_cd 170 2 = some (.putfield 248) := mt_cd_of (q := (2, .putfield 248, 3)) mq_170 ci_170 (List.mem_append_left _ (show _ ∈ my_170_0 from List.mem_of_getElem? (i := 2) rfl))
theorem cd_170_5 : mt_cd 170 5 = some (.aload_n 0) := mt_cd_of (q := (5, .aload_n 0, 1)) mq_170 ci_170 (List.mem_append_left _ (show _ ∈ my_170_0 from List.mem_of_getElem? (i := 3) rfl))
theorem cd_170_6 : mt_cd 170 6 = some (.aload_n 0) := mt_cd_of (q := (6, .aload_n 0, 1)) mq_170 ci_170 (List.mem_append_left _ (show _ ∈ my_170_0 from List.mem_of_getElem? (i := 4) rfl))
theorem cd_170_7 : mt_cd 170 7 = some (.getfield 13) := mt_cd_of (q := (7, .getfield 13, 3)) mq_170 ci_170 (List.mem_append_left _ (show _ ∈ my_170_0 from List.mem_of_getElem? (i := 5) rfl))
theorem cd_170_10 : mt_cd 170 10 = some (.ifCond .ge 7) := mt_cd_of (q := (10, .ifCond .ge 7, 3)) mq_170 ci_170 (List.mem_append_left _ (show _ ∈ my_170_0 from List.mem_of_getElem? (i := 6) rfl))
theorem cd_170_13 : mt_cd 170 13 = some (.iconst 1) := mt_cd_of (q := (13, .iconst 1, 1)) mq_170 ci_170 (List.mem_append_left _ (show _ ∈ my_170_0 from List.mem_of_getElem? (i := 7) rfl))
theorem cd_170_14 : mt_cd 170 14 = some (.goto 4) := mt_cd_of (q := (14, .goto 4, 3)) mq_170 ci_170 (List.mem_append_left _ (show _ ∈ my_170_0 from List.mem_of_getElem? (i := 8) rfl))
theorem cd_170_17 : mt_cd 170 17 = some (.iconst 0) := mt_cd_of (q := (17, .iconst 0, 1)) mq_170 ci_170 (List.mem_append_left _ (show _ ∈ my_170_0 from List.mem_of_getElem? (i := 9) rfl))
theorem cd_170_18 : mt_cd 170 18 = some (.iconst 1) := mt_cd_of (q := (18, .iconst 1, 1)) mq_170 ci_170 (List.mem_append_left _ (show _ ∈ my_170_0 from List.mem_of_getElem? (i := 10) rfl))
theorem cd_170_19 : mt_cd 170 19 = some (.invokevirtual 254) := mt_cd_of (q := (19, .invokevirtual 254, 3)) mq_170 ci_170 (List.mem_append_left _ (show _ ∈ my_170_0 from List.mem_of_getElem? (i := 11) rfl))
theorem cd_170_22 : mt_cd 170 22 = some (.ifCond .eq 5) := mt_cd_of (q := (22, .ifCond .eq 5, 3)) mq_170 ci_170 (List.mem_append_left _ (show _ ∈ my_170_0 from List.mem_of_getElem? (i := 12) rfl))
theorem cd_170_25 : mt_cd 170 25 = some (.iconst 0) := mt_cd_of (q := (25, .iconst 0, 1)) mq_170 ci_170 (List.mem_append_left _ (show _ ∈ my_170_0 from List.mem_of_getElem? (i := 13) rfl))
theorem cd_170_26 : mt_cd 170 26 = some (.ireturn) := mt_cd_of (q := (26, .ireturn, 1)) mq_170 ci_170 (List.mem_append_left _ (show _ ∈ my_170_0 from List.mem_of_getElem? (i := 14) rfl))
theorem cd_170_27 : mt_cd 170 27 = some (.aload_n 0) := mt_cd_of (q := (27, .aload_n 0, 1)) mq_170 ci_170 (List.mem_append_left _ (show _ ∈ my_170_0 from List.mem_of_getElem? (i := 15) rfl))
theorem cd_170_28 : mt_cd 170 28 = some (.aload_n 0) := mt_cd_of (q := (28, .aload_n 0, 1)) mq_170 ci_170 (List.mem_append_left _ (show _ ∈ my_170_0 from List.mem_of_getElem? (i := 16) rfl))
theorem cd_170_29 : mt_cd 170 29 = some (.getfield 151) := mt_cd_of (q := (29, .getfield 151, 3)) mq_170 ci_170 (List.mem_append_left _ (show _ ∈ my_170_0 from List.mem_of_getElem? (i := 17) rfl))
theorem cd_170_32 : mt_cd 170 32 = some (.putfield 445) := mt_cd_of (q := (32, .putfield 445, 3)) mq_170 ci_170 (List.mem_append_left _ (show _ ∈ my_170_0 from List.mem_of_getElem? (i := 18) rfl))
theorem cd_170_35 : mt_cd 170 35 = some (.aload_n 0) := mt_cd_of (q := (35, .aload_n 0, 1)) mq_170 ci_170 (List.mem_append_left _ (show _ ∈ my_170_0 from List.mem_of_getElem? (i := 19) rfl))
theorem cd_170_36 : mt_cd 170 36 = some (.getfield 445) := mt_cd_of (q := (36, .getfield 445, 3)) mq_170 ci_170 (List.mem_append_left _ (show _ ∈ my_170_0 from List.mem_of_getElem? (i := 20) rfl))
theorem cd_170_39 : mt_cd 170 39 = some (.aload_n 0) := mt_cd_of (q := (39, .aload_n 0, 1)) mq_170 ci_170 (List.mem_append_left _ (show _ ∈ my_170_0 from List.mem_of_getElem? (i := 21) rfl))
theorem cd_170_40 : mt_cd 170 40 = some (.getfield 147) := mt_cd_of (q := (40, .getfield 147, 3)) mq_170 ci_170 (List.mem_append_left _ (show _ ∈ my_170_0 from List.mem_of_getElem? (i := 22) rfl))
theorem cd_170_43 : mt_cd 170 43 = some (.invokevirtual 525) := mt_cd_of (q := (43, .invokevirtual 525, 3)) mq_170 ci_170 (List.mem_append_left _ (show _ ∈ my_170_0 from List.mem_of_getElem? (i := 23) rfl))
theorem cd_170_46 : mt_cd 170 46 = some (.aload_n 0) := mt_cd_of (q := (46, .aload_n 0, 1)) mq_170 ci_170 (List.mem_append_left _ (show _ ∈ my_170_0 from List.mem_of_getElem? (i := 24) rfl))
theorem cd_170_47 : mt_cd 170 47 = some (.iconst 1) := mt_cd_of (q := (47, .iconst 1, 1)) mq_170 ci_170 (List.mem_append_left _ (show _ ∈ my_170_0 from List.mem_of_getElem? (i := 25) rfl))
theorem cd_170_48 : mt_cd 170 48 = some (.putfield 513) := mt_cd_of (q := (48, .putfield 513, 3)) mq_170 ci_170 (List.mem_append_left _ (show _ ∈ my_170_0 from List.mem_of_getElem? (i := 26) rfl))
theorem cd_170_51 : mt_cd 170 51 = some (.aload_n 0) := mt_cd_of (q := (51, .aload_n 0, 1)) mq_170 ci_170 (List.mem_append_left _ (show _ ∈ my_170_0 from List.mem_of_getElem? (i := 27) rfl))
theorem cd_170_52 : mt_cd 170 52 = some (.lload_n 1) := mt_cd_of (q := (52, .lload_n 1, 1)) mq_170 ci_170 (List.mem_append_left _ (show _ ∈ my_170_0 from List.mem_of_getElem? (i := 28) rfl))
theorem cd_170_53 : mt_cd 170 53 = some (.lload_n 3) := mt_cd_of (q := (53, .lload_n 3, 1)) mq_170 ci_170 (List.mem_append_left _ (show _ ∈ my_170_0 from List.mem_of_getElem? (i := 29) rfl))
theorem cd_170_54 : mt_cd 170 54 = some (.aload_n 0) := mt_cd_of (q := (54, .aload_n 0, 1)) mq_170 ci_170 (List.mem_append_left _ (show _ ∈ my_170_0 from List.mem_of_getElem? (i := 30) rfl))
theorem cd_170_55 : mt_cd 170 55 = some (.getfield 258) := mt_cd_of (q := (55, .getfield 258, 3)) mq_170 ci_170 (List.mem_append_left _ (show _ ∈ my_170_0 from List.mem_of_getElem? (i := 31) rfl))
theorem cd_170_58 : mt_cd 170 58 = some (.invokevirtual 529) := mt_cd_of (q := (58, .invokevirtual 529, 3)) mq_170 ci_170 (List.mem_append_left _ (show _ ∈ my_170_0 from List.mem_of_getElem? (i := 32) rfl))
theorem cd_170_61 : mt_cd 170 61 = some (.istore 5) := mt_cd_of (q := (61, .istore 5, 2)) mq_170 ci_170 (List.mem_append_left _ (show _ ∈ my_170_0 from List.mem_of_getElem? (i := 33) rfl))
theorem cd_170_63 : mt_cd 170 63 = some (.aload_n 0) := mt_cd_of (q := (63, .aload_n 0, 1)) mq_170 ci_170 (List.mem_append_left _ (show _ ∈ my_170_0 from List.mem_of_getElem? (i := 34) rfl))
theorem cd_170_64 : mt_cd 170 64 = some (.iconst 0) := mt_cd_of (q := (64, .iconst 0, 1)) mq_170 ci_170 (List.mem_append_left _ (show _ ∈ my_170_0 from List.mem_of_getElem? (i := 35) rfl))
theorem cd_170_65 : mt_cd 170 65 = some (.putfield 258) := mt_cd_of (q := (65, .putfield 258, 3)) mq_170 ci_170 (List.mem_append_left _ (show _ ∈ my_170_0 from List.mem_of_getElem? (i := 36) rfl))
theorem cd_170_68 : mt_cd 170 68 = some (.iload 5) := mt_cd_of (q := (68, .iload 5, 2)) mq_170 ci_170 (List.mem_append_left _ (show _ ∈ my_170_0 from List.mem_of_getElem? (i := 37) rfl))
theorem cd_170_70 : mt_cd 170 70 = some (.ifCond .ne 9) := mt_cd_of (q := (70, .ifCond .ne 9, 3)) mq_170 ci_170 (List.mem_append_left _ (show _ ∈ my_170_0 from List.mem_of_getElem? (i := 38) rfl))
theorem cd_170_73 : mt_cd 170 73 = some (.aload_n 0) := mt_cd_of (q := (73, .aload_n 0, 1)) mq_170 ci_170 (List.mem_append_left _ (show _ ∈ my_170_0 from List.mem_of_getElem? (i := 39) rfl))
theorem cd_170_74 : mt_cd 170 74 = some (.invokevirtual 533) := mt_cd_of (q := (74, .invokevirtual 533, 3)) mq_170 ci_170 (List.mem_append_left _ (show _ ∈ my_170_0 from List.mem_of_getElem? (i := 40) rfl))
theorem cd_170_77 : mt_cd 170 77 = some (.istore 5) := mt_cd_of (q := (77, .istore 5, 2)) mq_170 ci_170 (List.mem_append_left _ (show _ ∈ my_170_0 from List.mem_of_getElem? (i := 41) rfl))
theorem cd_170_79 : mt_cd 170 79 = some (.iload 5) := mt_cd_of (q := (79, .iload 5, 2)) mq_170 ci_170 (List.mem_append_left _ (show _ ∈ my_170_0 from List.mem_of_getElem? (i := 42) rfl))
theorem cd_170_81 : mt_cd 170 81 = some (.ifCond .ne 17) := mt_cd_of (q := (81, .ifCond .ne 17, 3)) mq_170 ci_170 (List.mem_append_left _ (show _ ∈ my_170_0 from List.mem_of_getElem? (i := 43) rfl))
theorem cd_170_84 : mt_cd 170 84 = some (.aload_n 0) := mt_cd_of (q := (84, .aload_n 0, 1)) mq_170 ci_170 (List.mem_append_left _ (show _ ∈ my_170_0 from List.mem_of_getElem? (i := 44) rfl))
theorem cd_170_85 : mt_cd 170 85 = some (.getfield 147) := mt_cd_of (q := (85, .getfield 147, 3)) mq_170 ci_170 (List.mem_append_left _ (show _ ∈ my_170_0 from List.mem_of_getElem? (i := 45) rfl))
theorem cd_170_88 : mt_cd 170 88 = some (.aload_n 0) := mt_cd_of (q := (88, .aload_n 0, 1)) mq_170 ci_170 (List.mem_append_left _ (show _ ∈ my_170_0 from List.mem_of_getElem? (i := 46) rfl))
theorem cd_170_89 : mt_cd 170 89 = some (.getfield 151) := mt_cd_of (q := (89, .getfield 151, 3)) mq_170 ci_170 (List.mem_append_left _ (show _ ∈ my_170_0 from List.mem_of_getElem? (i := 47) rfl))
theorem cd_170_92 : mt_cd 170 92 = some (.invokevirtual 525) := mt_cd_of (q := (92, .invokevirtual 525, 3)) mq_170 ci_170 (List.mem_append_left _ (show _ ∈ my_170_0 from List.mem_of_getElem? (i := 48) rfl))
theorem cd_170_95 : mt_cd 170 95 = some (.goto 13) := mt_cd_of (q := (95, .goto 13, 3)) mq_170 ci_170 (List.mem_append_left _ (show _ ∈ my_170_0 from List.mem_of_getElem? (i := 49) rfl))
theorem cd_170_98 : mt_cd 170 98 = some (.aload_n 0) := mt_cd_of (q := (98, .aload_n 0, 1)) mq_170 ci_170 (List.mem_append_left _ (show _ ∈ my_170_0 from List.mem_of_getElem? (i := 50) rfl))
theorem cd_170_99 : mt_cd 170 99 = some (.iconst 0) := mt_cd_of (q := (99, .iconst 0, 1)) mq_170 ci_170 (List.mem_append_left _ (show _ ∈ my_170_0 from List.mem_of_getElem? (i := 51) rfl))
theorem cd_170_100 : mt_cd 170 100 = some (.putfield 490) := mt_cd_of (q := (100, .putfield 490, 3)) mq_170 ci_170 (List.mem_append_left _ (show _ ∈ my_170_0 from List.mem_of_getElem? (i := 52) rfl))
theorem cd_170_103 : mt_cd 170 103 = some (.aload_n 0) := mt_cd_of (q := (103, .aload_n 0, 1)) mq_170 ci_170 (List.mem_append_left _ (show _ ∈ my_170_0 from List.mem_of_getElem? (i := 53) rfl))
theorem cd_170_104 : mt_cd 170 104 = some (.iconst 0) := mt_cd_of (q := (104, .iconst 0, 1)) mq_170 ci_170 (List.mem_append_left _ (show _ ∈ my_170_0 from List.mem_of_getElem? (i := 54) rfl))
theorem cd_170_105 : mt_cd 170 105 = some (.putfield 493) := mt_cd_of (q := (105, .putfield 493, 3)) mq_170 ci_170 (List.mem_append_left _ (show _ ∈ my_170_0 from List.mem_of_getElem? (i := 55) rfl))
theorem cd_170_108 : mt_cd 170 108 = some (.aload_n 0) := mt_cd_of (q := (108, .aload_n 0, 1)) mq_170 ci_170 (List.mem_append_left _ (show _ ∈ my_170_0 from List.mem_of_getElem? (i := 56) rfl))
theorem cd_170_109 : mt_cd 170 109 = some (.aload_n 0) := mt_cd_of (q := (109, .aload_n 0, 1)) mq_170 ci_170 (List.mem_append_left _ (show _ ∈ my_170_0 from List.mem_of_getElem? (i := 57) rfl))
theorem cd_170_110 : mt_cd 170 110 = some (.getfield 490) := mt_cd_of (q := (110, .getfield 490, 3)) mq_170 ci_170 (List.mem_append_left _ (show _ ∈ my_170_0 from List.mem_of_getElem? (i := 58) rfl))
theorem cd_170_113 : mt_cd 170 113 = some (.putfield 536) := mt_cd_of (q := (113, .putfield 536, 3)) mq_170 ci_170 (List.mem_append_left _ (show _ ∈ my_170_0 from List.mem_of_getElem? (i := 59) rfl))
theorem cd_170_116 : mt_cd 170 116 = some (.aload_n 0) := mt_cd_of (q := (116, .aload_n 0, 1)) mq_170 ci_170 (List.mem_append_right _ (List.mem_append_left _ (show _ ∈ my_170_1 from List.mem_of_getElem? (i := 0) rfl)))
theorem cd_170_117 : mt_cd 170 117 = some (.aload_n 0) := mt_cd_of (q := (117, .aload_n 0, 1)) mq_170 ci_170 (List.mem_append_right _ (List.mem_append_left _ (show _ ∈ my_170_1 from List.mem_of_getElem? (i := 1) rfl)))
theorem cd_170_118 : mt_cd 170 118 = some (.getfield 493) := mt_cd_of (q := (118, .getfield 493, 3)) mq_170 ci_170 (List.mem_append_right _ (List.mem_append_left _ (show _ ∈ my_170_1 from List.mem_of_getElem? (i := 2) rfl)))
theorem cd_170_121 : mt_cd 170 121 = some (.putfield 539) := mt_cd_of (q := (121, .putfield 539, 3)) mq_170 ci_170 (List.mem_append_right _ (List.mem_append_left _ (show _ ∈ my_170_1 from List.mem_of_getElem? (i := 3) rfl)))
theorem cd_170_124 : mt_cd 170 124 = some (.iconst 0) := mt_cd_of (q := (124, .iconst 0, 1)) mq_170 ci_170 (List.mem_append_right _ (List.mem_append_left _ (show _ ∈ my_170_1 from List.mem_of_getElem? (i := 4) rfl)))
theorem cd_170_125 : mt_cd 170 125 = some (.istore 6) := mt_cd_of (q := (125, .istore 6, 2)) mq_170 ci_170 (List.mem_append_right _ (List.mem_append_left _ (show _ ∈ my_170_1 from List.mem_of_getElem? (i := 5) rfl)))
theorem cd_170_127 : mt_cd 170 127 = some (.iload 6) := mt_cd_of (q := (127, .iload 6, 2)) mq_170 ci_170 (List.mem_append_right _ (List.mem_append_left _ (show _ ∈ my_170_1 from List.mem_of_getElem? (i := 6) rfl)))
theorem cd_170_129 : mt_cd 170 129 = some (.aload_n 0) := mt_cd_of (q := (129, .aload_n 0, 1)) mq_170 ci_170 (List.mem_append_right _ (List.mem_append_left _ (show _ ∈ my_170_1 from List.mem_of_getElem? (i := 7) rfl)))
theorem cd_170_130 : mt_cd 170 130 = some (.getfield 490) := mt_cd_of (q := (130, .getfield 490, 3)) mq_170 ci_170 (List.mem_append_right _ (List.mem_append_left _ (show _ ∈ my_170_1 from List.mem_of_getElem? (i := 8) rfl)))
theorem cd_170_133 : mt_cd 170 133 = some (.if_icmp .ge 37) := mt_cd_of (q := (133, .if_icmp .ge 37, 3)) mq_170 ci_170 (List.mem_append_right _ (List.mem_append_left _ (show _ ∈ my_170_1 from List.mem_of_getElem? (i := 9) rfl)))
theorem cd_170_136 : mt_cd 170 136 = some (.aload_n 0) := mt_cd_of (q := (136, .aload_n 0, 1)) mq_170 ci_170 (List.mem_append_right _ (List.mem_append_left _ (show _ ∈ my_170_1 from List.mem_of_getElem? (i := 10) rfl)))
theorem cd_170_137 : mt_cd 170 137 = some (.getfield 193) := mt_cd_of (q := (137, .getfield 193, 3)) mq_170 ci_170 (List.mem_append_right _ (List.mem_append_left _ (show _ ∈ my_170_1 from List.mem_of_getElem? (i := 11) rfl)))
theorem cd_170_140 : mt_cd 170 140 = some (.iload 6) := mt_cd_of (q := (140, .iload 6, 2)) mq_170 ci_170 (List.mem_append_right _ (List.mem_append_left _ (show _ ∈ my_170_1 from List.mem_of_getElem? (i := 12) rfl)))
theorem cd_170_142 : mt_cd 170 142 = some (.aload_n 0) := mt_cd_of (q := (142, .aload_n 0, 1)) mq_170 ci_170 (List.mem_append_right _ (List.mem_append_left _ (show _ ∈ my_170_1 from List.mem_of_getElem? (i := 13) rfl)))
theorem cd_170_143 : mt_cd 170 143 = some (.getfield 154) := mt_cd_of (q := (143, .getfield 154, 3)) mq_170 ci_170 (List.mem_append_right _ (List.mem_append_left _ (show _ ∈ my_170_1 from List.mem_of_getElem? (i := 14) rfl)))
theorem cd_170_146 : mt_cd 170 146 = some (.iload 6) := mt_cd_of (q := (146, .iload 6, 2)) mq_170 ci_170 (List.mem_append_right _ (List.mem_append_left _ (show _ ∈ my_170_1 from List.mem_of_getElem? (i := 15) rfl)))
theorem cd_170_148 : mt_cd 170 148 = some (.iaload) := mt_cd_of (q := (148, .iaload, 1)) mq_170 ci_170 (List.mem_append_right _ (List.mem_append_left _ (show _ ∈ my_170_1 from List.mem_of_getElem? (i := 16) rfl)))
theorem cd_170_149 : mt_cd 170 149 = some (.iastore) := mt_cd_of (q := (149, .iastore, 1)) mq_170 ci_170 (List.mem_append_right _ (List.mem_append_left _ (show _ ∈ my_170_1 from List.mem_of_getElem? (i := 17) rfl)))
theorem cd_170_150 : mt_cd 170 150 = some (.aload_n 0) := mt_cd_of (q := (150, .aload_n 0, 1)) mq_170 ci_170 (List.mem_append_right _ (List.mem_append_left _ (show _ ∈ my_170_1 from List.mem_of_getElem? (i := 18) rfl)))
theorem cd_170_151 : mt_cd 170 151 = some (.getfield 196) := mt_cd_of (q := (151, .getfield 196, 3)) mq_170 ci_170 (List.mem_append_right _ (List.mem_append_left _ (show _ ∈ my_170_1 from List.mem_of_getElem? (i := 19) rfl)))
theorem cd_170_154 : mt_cd 170 154 = some (.iload 6) := mt_cd_of (q := (154, .iload 6, 2)) mq_170 ci_170 (List.mem_append_right _ (List.mem_append_left _ (show _ ∈ my_170_1 from List.mem_of_getElem? (i := 20) rfl)))
theorem cd_170_156 : mt_cd 170 156 = some (.aload_n 0) := mt_cd_of (q := (156, .aload_n 0, 1)) mq_170 ci_170 (List.mem_append_right _ (List.mem_append_left _ (show _ ∈ my_170_1 from List.mem_of_getElem? (i := 21) rfl)))
theorem cd_170_157 : mt_cd 170 157 = some (.getfield 157) := mt_cd_of (q := (157, .getfield 157, 3)) mq_170 ci_170 (List.mem_append_right _ (List.mem_append_left _ (show _ ∈ my_170_1 from List.mem_of_getElem? (i := 22) rfl)))
theorem cd_170_160 : mt_cd 170 160 = some (.iload 6) := mt_cd_of (q := (160, .iload 6, 2)) mq_170 ci_170 (List.mem_append_right _ (List.mem_append_left _ (show _ ∈ my_170_1 from List.mem_of_getElem? (i := 23) rfl)))
theorem cd_170_162 : mt_cd 170 162 = some (.iaload) := mt_cd_of (q := (162, .iaload, 1)) mq_170 ci_170 (List.mem_append_right _ (List.mem_append_left _ (show _ ∈ my_170_1 from List.mem_of_getElem? (i := 24) rfl)))
theorem cd_170_163 : mt_cd 170 163 = some (.iastore) := mt_cd_of (q := (163, .iastore, 1)) mq_170 ci_170 (List.mem_append_right _ (List.mem_append_left _ (show _ ∈ my_170_1 from List.mem_of_getElem? (i := 25) rfl)))
theorem cd_170_164 : mt_cd 170 164 = some (.iinc 6 1) := mt_cd_of (q := (164, .iinc 6 1, 3)) mq_170 ci_170 (List.mem_append_right _ (List.mem_append_left _ (show _ ∈ my_170_1 from List.mem_of_getElem? (i := 26) rfl)))
theorem cd_170_167 : mt_cd 170 167 = some (.goto (-40)) := mt_cd_of (q := (167, .goto (-40), 3)) mq_170 ci_170 (List.mem_append_right _ (List.mem_append_left _ (show _ ∈ my_170_1 from List.mem_of_getElem? (i := 27) rfl)))
theorem cd_170_170 : mt_cd 170 170 = some (.iconst 0) := mt_cd_of (q := (170, .iconst 0, 1)) mq_170 ci_170 (List.mem_append_right _ (List.mem_append_left _ (show _ ∈ my_170_1 from List.mem_of_getElem? (i := 28) rfl)))
theorem cd_170_171 : mt_cd 170 171 = some (.istore 6) := mt_cd_of (q := (171, .istore 6, 2)) mq_170 ci_170 (List.mem_append_right _ (List.mem_append_left _ (show _ ∈ my_170_1 from List.mem_of_getElem? (i := 29) rfl)))
theorem cd_170_173 : mt_cd 170 173 = some (.iload 6) := mt_cd_of (q := (173, .iload 6, 2)) mq_170 ci_170 (List.mem_append_right _ (List.mem_append_left _ (show _ ∈ my_170_1 from List.mem_of_getElem? (i := 30) rfl)))
theorem cd_170_175 : mt_cd 170 175 = some (.aload_n 0) := mt_cd_of (q := (175, .aload_n 0, 1)) mq_170 ci_170 (List.mem_append_right _ (List.mem_append_left _ (show _ ∈ my_170_1 from List.mem_of_getElem? (i := 31) rfl)))
theorem cd_170_176 : mt_cd 170 176 = some (.getfield 493) := mt_cd_of (q := (176, .getfield 493, 3)) mq_170 ci_170 (List.mem_append_right _ (List.mem_append_left _ (show _ ∈ my_170_1 from List.mem_of_getElem? (i := 32) rfl)))
theorem cd_170_179 : mt_cd 170 179 = some (.if_icmp .ge 65) := mt_cd_of (q := (179, .if_icmp .ge 65, 3)) mq_170 ci_170 (List.mem_append_right _ (List.mem_append_left _ (show _ ∈ my_170_1 from List.mem_of_getElem? (i := 33) rfl)))
theorem cd_170_182 : mt_cd 170 182 = some (.aload_n 0) := mt_cd_of (q := (182, .aload_n 0, 1)) mq_170 ci_170 (List.mem_append_right _ (List.mem_append_left _ (show _ ∈ my_170_1 from List.mem_of_getElem? (i := 34) rfl)))
theorem cd_170_183 : mt_cd 170 183 = some (.getfield 199) := mt_cd_of (q := (183, .getfield 199, 3)) mq_170 ci_170 (List.mem_append_right _ (List.mem_append_left _ (show _ ∈ my_170_1 from List.mem_of_getElem? (i := 35) rfl)))
theorem cd_170_186 : mt_cd 170 186 = some (.iload 6) := mt_cd_of (q := (186, .iload 6, 2)) mq_170 ci_170 (List.mem_append_right _ (List.mem_append_left _ (show _ ∈ my_170_1 from List.mem_of_getElem? (i := 36) rfl)))
theorem cd_170_188 : mt_cd 170 188 = some (.aload_n 0) := mt_cd_of (q := (188, .aload_n 0, 1)) mq_170 ci_170 (List.mem_append_right _ (List.mem_append_left _ (show _ ∈ my_170_1 from List.mem_of_getElem? (i := 37) rfl)))
theorem cd_170_189 : mt_cd 170 189 = some (.getfield 160) := mt_cd_of (q := (189, .getfield 160, 3)) mq_170 ci_170 (List.mem_append_right _ (List.mem_append_left _ (show _ ∈ my_170_1 from List.mem_of_getElem? (i := 38) rfl)))
theorem cd_170_192 : mt_cd 170 192 = some (.iload 6) := mt_cd_of (q := (192, .iload 6, 2)) mq_170 ci_170 (List.mem_append_right _ (List.mem_append_left _ (show _ ∈ my_170_1 from List.mem_of_getElem? (i := 39) rfl)))
theorem cd_170_194 : mt_cd 170 194 = some (.iaload) := mt_cd_of (q := (194, .iaload, 1)) mq_170 ci_170 (List.mem_append_right _ (List.mem_append_left _ (show _ ∈ my_170_1 from List.mem_of_getElem? (i := 40) rfl)))
theorem cd_170_195 : mt_cd 170 195 = some (.iastore) := mt_cd_of (q := (195, .iastore, 1)) mq_170 ci_170 (List.mem_append_right _ (List.mem_append_left _ (show _ ∈ my_170_1 from List.mem_of_getElem? (i := 41) rfl)))
theorem cd_170_196 : mt_cd 170 196 = some (.aload_n 0) := mt_cd_of (q := (196, .aload_n 0, 1)) mq_170 ci_170 (List.mem_append_right _ (List.mem_append_left _ (show _ ∈ my_170_1 from List.mem_of_getElem? (i := 42) rfl)))
theorem cd_170_197 : mt_cd 170 197 = some (.getfield 202) := mt_cd_of (q := (197, .getfield 202, 3)) mq_170 ci_170 (List.mem_append_right _ (List.mem_append_left _ (show _ ∈ my_170_1 from List.mem_of_getElem? (i := 43) rfl)))
theorem cd_170_200 : mt_cd 170 200 = some (.iload 6) := mt_cd_of (q := (200, .iload 6, 2)) mq_170 ci_170 (List.mem_append_right _ (List.mem_append_left _ (show _ ∈ my_170_1 from List.mem_of_getElem? (i := 44) rfl)))
theorem cd_170_202 : mt_cd 170 202 = some (.aload_n 0) := mt_cd_of (q := (202, .aload_n 0, 1)) mq_170 ci_170 (List.mem_append_right _ (List.mem_append_left _ (show _ ∈ my_170_1 from List.mem_of_getElem? (i := 45) rfl)))
theorem cd_170_203 : mt_cd 170 203 = some (.getfield 163) := mt_cd_of (q := (203, .getfield 163, 3)) mq_170 ci_170 (List.mem_append_right _ (List.mem_append_left _ (show _ ∈ my_170_1 from List.mem_of_getElem? (i := 46) rfl)))
theorem cd_170_206 : mt_cd 170 206 = some (.iload 6) := mt_cd_of (q := (206, .iload 6, 2)) mq_170 ci_170 (List.mem_append_right _ (List.mem_append_left _ (show _ ∈ my_170_1 from List.mem_of_getElem? (i := 47) rfl)))
theorem cd_170_208 : mt_cd 170 208 = some (.iaload) := mt_cd_of (q := (208, .iaload, 1)) mq_170 ci_170 (List.mem_append_right _ (List.mem_append_left _ (show _ ∈ my_170_1 from List.mem_of_getElem? (i := 48) rfl)))
theorem cd_170_209 : mt_cd 170 209 = some (.iastore) := mt_cd_of (q := (209, .iastore, 1)) mq_170 ci_170 (List.mem_append_right _ (List.mem_append_left _ (show _ ∈ my_170_1 from List.mem_of_getElem? (i := 49) rfl)))
theorem cd_170_210 : mt_cd 170 210 = some (.aload_n 0) := mt_cd_of (q := (210, .aload_n 0, 1)) mq_170 ci_170 (List.mem_append_right _ (List.mem_append_left _ (show _ ∈ my_170_1 from List.mem_of_getElem? (i := 50) rfl)))
theorem cd_170_211 : mt_cd 170 211 = some (.getfield 205) := mt_cd_of (q := (211, .getfield 205, 3)) mq_170 ci_170 (List.mem_append_right _ (List.mem_append_left _ (show _ ∈ my_170_1 from List.mem_of_getElem? (i := 51) rfl)))
theorem cd_170_214 : mt_cd 170 214 = some (.iload 6) := mt_cd_of (q := (214, .iload 6, 2)) mq_170 ci_170 (List.mem_append_right _ (List.mem_append_left _ (show _ ∈ my_170_1 from List.mem_of_getElem? (i := 52) rfl)))
theorem cd_170_216 : mt_cd 170 216 = some (.aload_n 0) := mt_cd_of (q := (216, .aload_n 0, 1)) mq_170 ci_170 (List.mem_append_right _ (List.mem_append_left _ (show _ ∈ my_170_1 from List.mem_of_getElem? (i := 53) rfl)))
theorem cd_170_217 : mt_cd 170 217 = some (.getfield 166) := mt_cd_of (q := (217, .getfield 166, 3)) mq_170 ci_170 (List.mem_append_right _ (List.mem_append_left _ (show _ ∈ my_170_1 from List.mem_of_getElem? (i := 54) rfl)))
theorem cd_170_220 : mt_cd 170 220 = some (.iload 6) := mt_cd_of (q := (220, .iload 6, 2)) mq_170 ci_170 (List.mem_append_right _ (List.mem_append_left _ (show _ ∈ my_170_1 from List.mem_of_getElem? (i := 55) rfl)))
theorem cd_170_222 : mt_cd 170 222 = some (.iaload) := mt_cd_of (q := (222, .iaload, 1)) mq_170 ci_170 (List.mem_append_right _ (List.mem_append_left _ (show _ ∈ my_170_1 from List.mem_of_getElem? (i := 56) rfl)))
theorem cd_170_223 : mt_cd 170 223 = some (.iastore) := mt_cd_of (q := (223, .iastore, 1)) mq_170 ci_170 (List.mem_append_right _ (List.mem_append_left _ (show _ ∈ my_170_1 from List.mem_of_getElem? (i := 57) rfl)))
theorem cd_170_224 : mt_cd 170 224 = some (.aload_n 0) := mt_cd_of (q := (224, .aload_n 0, 1)) mq_170 ci_170 (List.mem_append_right _ (List.mem_append_left _ (show _ ∈ my_170_1 from List.mem_of_getElem? (i := 58) rfl)))
theorem cd_170_225 : mt_cd 170 225 = some (.getfield 208) := mt_cd_of (q := (225, .getfield 208, 3)) mq_170 ci_170 (List.mem_append_right _ (List.mem_append_left _ (show _ ∈ my_170_1 from List.mem_of_getElem? (i := 59) rfl)))
theorem cd_170_228 : mt_cd 170 228 = some (.iload 6) := mt_cd_of (q := (228, .iload 6, 2)) mq_170 ci_170 (List.mem_append_right _ (List.mem_append_right _ ((show _ ∈ my_170_2 from List.mem_of_getElem? (i := 0) rfl))))
theorem cd_170_230 : mt_cd 170 230 = some (.aload_n 0) := mt_cd_of (q := (230, .aload_n 0, 1)) mq_170 ci_170 (List.mem_append_right _ (List.mem_append_right _ ((show _ ∈ my_170_2 from List.mem_of_getElem? (i := 1) rfl))))
theorem cd_170_231 : mt_cd 170 231 = some (.getfield 169) := mt_cd_of (q := (231, .getfield 169, 3)) mq_170 ci_170 (List.mem_append_right _ (List.mem_append_right _ ((show _ ∈ my_170_2 from List.mem_of_getElem? (i := 2) rfl))))
theorem cd_170_234 : mt_cd 170 234 = some (.iload 6) := mt_cd_of (q := (234, .iload 6, 2)) mq_170 ci_170 (List.mem_append_right _ (List.mem_append_right _ ((show _ ∈ my_170_2 from List.mem_of_getElem? (i := 3) rfl))))
theorem cd_170_236 : mt_cd 170 236 = some (.laload) := mt_cd_of (q := (236, .laload, 1)) mq_170 ci_170 (List.mem_append_right _ (List.mem_append_right _ ((show _ ∈ my_170_2 from List.mem_of_getElem? (i := 4) rfl))))
theorem cd_170_237 : mt_cd 170 237 = some (.lastore) := mt_cd_of (q := (237, .lastore, 1)) mq_170 ci_170 (List.mem_append_right _ (List.mem_append_right _ ((show _ ∈ my_170_2 from List.mem_of_getElem? (i := 5) rfl))))
theorem cd_170_238 : mt_cd 170 238 = some (.iinc 6 1) := mt_cd_of (q := (238, .iinc 6 1, 3)) mq_170 ci_170 (List.mem_append_right _ (List.mem_append_right _ ((show _ ∈ my_170_2 from List.mem_of_getElem? (i := 6) rfl))))
theorem cd_170_241 : mt_cd 170 241 = some (.goto (-68)) := mt_cd_of (q := (241, .goto (-68), 3)) mq_170 ci_170 (List.mem_append_right _ (List.mem_append_right _ ((show _ ∈ my_170_2 from List.mem_of_getElem? (i := 7) rfl))))
theorem cd_170_244 : mt_cd 170 244 = some (.iload 5) := mt_cd_of (q := (244, .iload 5, 2)) mq_170 ci_170 (List.mem_append_right _ (List.mem_append_right _ ((show _ ∈ my_170_2 from List.mem_of_getElem? (i := 8) rfl))))
theorem cd_170_246 : mt_cd 170 246 = some (.ireturn) := mt_cd_of (q := (246, .ireturn, 1)) mq_170 ci_170 (List.mem_append_right _ (List.mem_append_right _ ((show _ ∈ my_170_2 from List.mem_of_getElem? (i := 9) rfl))))
theorem b_170_0 {d : Nat} {Q : (Option Value ⊕ Nat) → mi_H → Prop} (n sl : Nat) (f : Nat → mi_C) {l1 : Nat} {l2 : Int64} {l3 : Int64} {o4 : Option Value} {o5 : Option Value} {fs6 : List Value} {fs10 : List Value} {x13 : Int32} (h7 : f l1 = .inr (12, fs6)) (h8 : l1 < n) (h9 : 0 < fs6.length) (h11 : (va_up f l1 (.inr (12, fs6.set 0 (.int 0)))) l1 = .inr (12, fs10)) (h12 : l1 < n) (h14 : fs10[4]? = some (.int x13)) (h15 : (0 : Int32) ≤ x13 → mi_W d 170 17 [some (.ref l1), some (.long l2), none, some (.long l3), none, o4, o5] [.ref l1] (n, sl, (va_up f l1 (.inr (12, fs6.set 0 (.int 0))))) Q) (h16 : ¬ ((0 : Int32) ≤ x13) → mi_W d 170 13 [some (.ref l1), some (.long l2), none, some (.long l3), none, o4, o5] [.ref l1] (n, sl, (va_up f l1 (.inr (12, fs6.set 0 (.int 0))))) Q) : mi_W d 170 0 [some (.ref l1), some (.long l2), none, some (.long l3), none, o4, o5] [] (n, sl, f) Q := by
  refine w_aload_n cd_170_0 rfl ?_
  refine w_iconst (v := 0) cd_170_1 (by decide) ?_
  refine w_putfield (w := .int 0) cd_170_2 (show mt_f 12 248 = some (12, 0) by decide +kernel) h7 h8 ⟨h9, rfl, Or.inl (by decide)⟩ ?_
  refine w_aload_n cd_170_5 rfl ?_
  refine w_aload_n cd_170_6 rfl ?_
  refine w_getfield cd_170_7 (show mt_f 12 13 = some (12, 4) by decide +kernel) h11 h12 h14 ?_
  exact w_ifge cd_170_10 (by decide) h15 h16
theorem b_170_13 {d : Nat} {Q : (Option Value ⊕ Nat) → mi_H → Prop} (n sl : Nat) (f : Nat → mi_C) {l1 : Nat} {l2 : Int64} {l3 : Int64} {o4 : Option Value} {o5 : Option Value} {s6 : Nat} (h7 : mi_W d 170 18 [some (.ref l1), some (.long l2), none, some (.long l3), none, o4, o5] [.int 1, .ref s6] (n, sl, f) Q) : mi_W d 170 13 [some (.ref l1), some (.long l2), none, some (.long l3), none, o4, o5] [.ref s6] (n, sl, f) Q := by
  refine w_iconst (v := 1) cd_170_13 (by decide) ?_
  exact w_goto cd_170_14 (by decide) h7
theorem b_170_17 {d : Nat} {Q : (Option Value ⊕ Nat) → mi_H → Prop} (n sl : Nat) (f : Nat → mi_C) {l1 : Nat} {l2 : Int64} {l3 : Int64} {o4 : Option Value} {o5 : Option Value} {s6 : Nat} (h7 : mi_W d 170 18 [some (.ref l1), some (.long l2), none, some (.long l3), none, o4, o5] [.int 0, .ref s6] (n, sl, f) Q) : mi_W d 170 17 [some (.ref l1), some (.long l2), none, some (.long l3), none, o4, o5] [.ref s6] (n, sl, f) Q := by
  refine w_iconst (v := 0) cd_170_17 (by decide) ?_
  exact h7
theorem b_170_18 {d : Nat} {Q : (Option Value ⊕ Nat) → mi_H → Prop} (n sl : Nat) (f : Nat → mi_C) {l1 : Nat} {l2 : Int64} {l3 : Int64} {o4 : Option Value} {o5 : Option Value} {s6 : Int32} {s7 : Nat} {fs8 : List Value} (h9 : f s7 = .inr (12, fs8)) (h10 : s7 < n) (h11 : mi_W d 138 0 (mi_en 3 [.ref s7, .int s6, .int 1]) [] (n, sl, f) (mi_Kc d 170 19 [some (.ref l1), some (.long l2), none, some (.long l3), none, o4, o5] [] Q)) : mi_W (d + 1) 170 18 [some (.ref l1), some (.long l2), none, some (.long l3), none, o4, o5] [.int s6, .ref s7] (n, sl, f) Q := by
  refine w_iconst (v := 1) cd_170_18 (by decide) ?_
  exact w_invokevirtual cd_170_19 (show mt_m 12 254 = some (138, 0) by decide +kernel) (rest := []) rfl (as := [.ref s7, .int s6, .int 1]) rfl h9 (Or.inl h10) ⟨Nat.le_of_ble_eq_true rfl, Nat.le_of_ble_eq_true rfl, Nat.le_of_ble_eq_true rfl⟩ h11
theorem b_170_22 {d : Nat} {Q : (Option Value ⊕ Nat) → mi_H → Prop} (n sl : Nat) (f : Nat → mi_C) {l1 : Nat} {l2 : Int64} {l3 : Int64} {o4 : Option Value} {o5 : Option Value} {s6 : Int32} (h7 : s6 = (0 : Int32) → mi_W d 170 27 [some (.ref l1), some (.long l2), none, some (.long l3), none, o4, o5] [] (n, sl, f) Q) (h8 : ¬ (s6 = (0 : Int32)) → mi_W d 170 25 [some (.ref l1), some (.long l2), none, some (.long l3), none, o4, o5] [] (n, sl, f) Q) : mi_W d 170 22 [some (.ref l1), some (.long l2), none, some (.long l3), none, o4, o5] [.int s6] (n, sl, f) Q := by
  exact w_ifeq cd_170_22 (by decide) h7 h8
theorem b_170_25 {d : Nat} {Q : (Option Value ⊕ Nat) → mi_H → Prop} (n sl : Nat) (f : Nat → mi_C) {l1 : Nat} {l2 : Int64} {l3 : Int64} {o4 : Option Value} {o5 : Option Value} (h6 : Q (.inl (some (.int 0))) (n, sl, f)) : mi_W d 170 25 [some (.ref l1), some (.long l2), none, some (.long l3), none, o4, o5] [] (n, sl, f) Q := by
  refine w_iconst (v := 0) cd_170_25 (by decide) ?_
  exact w_ireturn_i cd_170_26 (by decide +kernel) h6
theorem b_170_27 {d : Nat} {Q : (Option Value ⊕ Nat) → mi_H → Prop} (n sl : Nat) (f : Nat → mi_C) {l1 : Nat} {l2 : Int64} {l3 : Int64} {o4 : Option Value} {o5 : Option Value} {fs6 : List Value} {x9 : Nat} {fs11 : List Value} {fs15 : List Value} {x18 : Nat} {fs20 : List Value} {x23 : Nat} {fs25 : List Value} (h7 : f l1 = .inr (12, fs6)) (h8 : l1 < n) (h10 : fs6[42]? = some (.ref x9)) (h12 : f l1 = .inr (12, fs11)) (h13 : l1 < n) (h14 : 43 < fs11.length) (h16 : (va_up f l1 (.inr (12, fs11.set 43 (.ref x9)))) l1 = .inr (12, fs15)) (h17 : l1 < n) (h19 : fs15[43]? = some (.ref x18)) (h21 : (va_up f l1 (.inr (12, fs11.set 43 (.ref x9)))) l1 = .inr (12, fs20)) (h22 : l1 < n) (h24 : fs20[41]? = some (.ref x23)) (h26 : (va_up f l1 (.inr (12, fs11.set 43 (.ref x9)))) x18 = .inr (13, fs25)) (h27 : x18 < n) (h28 : mi_W d 171 0 (mi_en 3 [.ref x18, .ref x23]) [] (n, sl, (va_up f l1 (.inr (12, fs11.set 43 (.ref x9))))) (mi_Kc d 170 43 [some (.ref l1), some (.long l2), none, some (.long l3), none, o4, o5] [] Q)) : mi_W (d + 1) 170 27 [some (.ref l1), some (.long l2), none, some (.long l3), none, o4, o5] [] (n, sl, f) Q := by
  refine w_aload_n cd_170_27 rfl ?_
  refine w_aload_n cd_170_28 rfl ?_
  refine w_getfield cd_170_29 (show mt_f 12 151 = some (12, 42) by decide +kernel) h7 h8 h10 ?_
  refine w_putfield (w := .ref x9) cd_170_32 (show mt_f 12 445 = some (12, 43) by decide +kernel) h12 h13 ⟨h14, rfl, Or.inl (by decide)⟩ ?_
  refine w_aload_n cd_170_35 rfl ?_
  refine w_getfield cd_170_36 (show mt_f 12 445 = some (12, 43) by decide +kernel) h16 h17 h19 ?_
  refine w_aload_n cd_170_39 rfl ?_
  refine w_getfield cd_170_40 (show mt_f 12 147 = some (12, 41) by decide +kernel) h21 h22 h24 ?_
  exact w_invokevirtual cd_170_43 (show mt_m 12 525 = some (171, 0) by decide +kernel) (rest := []) rfl (as := [.ref x18, .ref x23]) rfl h26 (Or.inl h27) ⟨Nat.le_of_ble_eq_true rfl, Nat.le_of_ble_eq_true rfl, Nat.le_of_ble_eq_true rfl⟩ h28
theorem b_170_46 {d : Nat} {Q : (Option Value ⊕ Nat) → mi_H → Prop} (n sl : Nat) (f : Nat → mi_C) {l1 : Nat} {l2 : Int64} {l3 : Int64} {o4 : Option Value} {o5 : Option Value} {fs6 : List Value} {fs11 : List Value} {x14 : Int32} {fs16 : List Value} (h7 : f l1 = .inr (12, fs6)) (h8 : l1 < n) (h9 : 57 < fs6.length) (h10 : mi_fk .boolean (.int 1) = true) (h12 : (va_up f l1 (.inr (12, fs6.set 57 (.int 1)))) l1 = .inr (12, fs11)) (h13 : l1 < n) (h15 : fs11[59]? = some (.int x14)) (h17 : (va_up f l1 (.inr (12, fs6.set 57 (.int 1)))) l1 = .inr (12, fs16)) (h18 : l1 < n) (h19 : mi_W d 172 0 (mi_en 8 [.ref l1, .long l2, .long l3, .int x14]) [] (n, sl, (va_up f l1 (.inr (12, fs6.set 57 (.int 1))))) (mi_Kc d 170 58 [some (.ref l1), some (.long l2), none, some (.long l3), none, o4, o5] [] Q)) : mi_W (d + 1) 170 46 [some (.ref l1), some (.long l2), none, some (.long l3), none, o4, o5] [] (n, sl, f) Q := by
  refine w_aload_n cd_170_46 rfl ?_
  refine w_iconst (v := 1) cd_170_47 (by decide) ?_
  refine w_putfield (w := .int 1) cd_170_48 (show mt_f 12 513 = some (12, 57) by decide +kernel) h7 h8 ⟨h9, h10, Or.inl (by decide)⟩ ?_
  refine w_aload_n cd_170_51 rfl ?_
  refine w_lload_n cd_170_52 rfl ?_
  refine w_lload_n cd_170_53 rfl ?_
  refine w_aload_n cd_170_54 rfl ?_
  refine w_getfield cd_170_55 (show mt_f 12 258 = some (12, 59) by decide +kernel) h12 h13 h15 ?_
  exact w_invokevirtual cd_170_58 (show mt_m 12 529 = some (172, 0) by decide +kernel) (rest := []) rfl (as := [.ref l1, .long l2, .long l3, .int x14]) rfl h17 (Or.inl h18) ⟨Nat.le_of_ble_eq_true rfl, Nat.le_of_ble_eq_true rfl, Nat.le_of_ble_eq_true rfl⟩ h19
theorem b_170_61 {d : Nat} {Q : (Option Value ⊕ Nat) → mi_H → Prop} (n sl : Nat) (f : Nat → mi_C) {l1 : Nat} {l2 : Int64} {l3 : Int64} {o4 : Option Value} {o5 : Option Value} {s6 : Int32} {fs7 : List Value} (h8 : f l1 = .inr (12, fs7)) (h9 : l1 < n) (h10 : 59 < fs7.length) (h11 : ¬ s6 = (0 : Int32) → mi_W d 170 79 [some (.ref l1), some (.long l2), none, some (.long l3), none, some (.int s6), o5] [] (n, sl, (va_up f l1 (.inr (12, fs7.set 59 (.int 0))))) Q) (h12 : ¬ (¬ s6 = (0 : Int32)) → mi_W d 170 73 [some (.ref l1), some (.long l2), none, some (.long l3), none, some (.int s6), o5] [] (n, sl, (va_up f l1 (.inr (12, fs7.set 59 (.int 0))))) Q) : mi_W d 170 61 [some (.ref l1), some (.long l2), none, some (.long l3), none, o4, o5] [.int s6] (n, sl, f) Q := by
  refine w_istore (ls' := [some (.ref l1), some (.long l2), none, some (.long l3), none, some (.int s6), o5]) cd_170_61 (Nat.le_of_ble_eq_true rfl) rfl ?_
  refine w_aload_n cd_170_63 rfl ?_
  refine w_iconst (v := 0) cd_170_64 (by decide) ?_
  refine w_putfield (w := .int 0) cd_170_65 (show mt_f 12 258 = some (12, 59) by decide +kernel) h8 h9 ⟨h10, rfl, Or.inl (by decide)⟩ ?_
  refine w_iload cd_170_68 rfl ?_
  exact w_ifne cd_170_70 (by decide) h11 h12
theorem b_170_73 {d : Nat} {Q : (Option Value ⊕ Nat) → mi_H → Prop} (n sl : Nat) (f : Nat → mi_C) {l1 : Nat} {l2 : Int64} {l3 : Int64} {l4 : Int32} {o5 : Option Value} {fs6 : List Value} (h7 : f l1 = .inr (12, fs6)) (h8 : l1 < n) (h9 : mi_W d 183 0 (mi_en 6 [.ref l1]) [] (n, sl, f) (mi_Kc d 170 74 [some (.ref l1), some (.long l2), none, some (.long l3), none, some (.int l4), o5] [] Q)) : mi_W (d + 1) 170 73 [some (.ref l1), some (.long l2), none, some (.long l3), none, some (.int l4), o5] [] (n, sl, f) Q := by
  refine w_aload_n cd_170_73 rfl ?_
  exact w_invokevirtual cd_170_74 (show mt_m 12 533 = some (183, 0) by decide +kernel) (rest := []) rfl (as := [.ref l1]) rfl h7 (Or.inl h8) ⟨Nat.le_of_ble_eq_true rfl, Nat.le_of_ble_eq_true rfl, Nat.le_of_ble_eq_true rfl⟩ h9
theorem b_170_77 {d : Nat} {Q : (Option Value ⊕ Nat) → mi_H → Prop} (n sl : Nat) (f : Nat → mi_C) {l1 : Nat} {l2 : Int64} {l3 : Int64} {l4 : Int32} {o5 : Option Value} {s6 : Int32} (h7 : mi_W d 170 79 [some (.ref l1), some (.long l2), none, some (.long l3), none, some (.int s6), o5] [] (n, sl, f) Q) : mi_W d 170 77 [some (.ref l1), some (.long l2), none, some (.long l3), none, some (.int l4), o5] [.int s6] (n, sl, f) Q := by
  refine w_istore (ls' := [some (.ref l1), some (.long l2), none, some (.long l3), none, some (.int s6), o5]) cd_170_77 (Nat.le_of_ble_eq_true rfl) rfl ?_
  exact h7
theorem b_170_79 {d : Nat} {Q : (Option Value ⊕ Nat) → mi_H → Prop} (n sl : Nat) (f : Nat → mi_C) {l1 : Nat} {l2 : Int64} {l3 : Int64} {l4 : Int32} {o5 : Option Value} (h6 : ¬ l4 = (0 : Int32) → mi_W d 170 98 [some (.ref l1), some (.long l2), none, some (.long l3), none, some (.int l4), o5] [] (n, sl, f) Q) (h7 : ¬ (¬ l4 = (0 : Int32)) → mi_W d 170 84 [some (.ref l1), some (.long l2), none, some (.long l3), none, some (.int l4), o5] [] (n, sl, f) Q) : mi_W d 170 79 [some (.ref l1), some (.long l2), none, some (.long l3), none, some (.int l4), o5] [] (n, sl, f) Q := by
  refine w_iload cd_170_79 rfl ?_
  exact w_ifne cd_170_81 (by decide) h6 h7
theorem b_170_84 {d : Nat} {Q : (Option Value ⊕ Nat) → mi_H → Prop} (n sl : Nat) (f : Nat → mi_C) {l1 : Nat} {l2 : Int64} {l3 : Int64} {l4 : Int32} {o5 : Option Value} {fs6 : List Value} {x9 : Nat} {fs11 : List Value} {x14 : Nat} {fs16 : List Value} (h7 : f l1 = .inr (12, fs6)) (h8 : l1 < n) (h10 : fs6[41]? = some (.ref x9)) (h12 : f l1 = .inr (12, fs11)) (h13 : l1 < n) (h15 : fs11[42]? = some (.ref x14)) (h17 : f x9 = .inr (13, fs16)) (h18 : x9 < n) (h19 : mi_W d 171 0 (mi_en 3 [.ref x9, .ref x14]) [] (n, sl, f) (mi_Kc d 170 92 [some (.ref l1), some (.long l2), none, some (.long l3), none, some (.int l4), o5] [] Q)) : mi_W (d + 1) 170 84 [some (.ref l1), some (.long l2), none, some (.long l3), none, some (.int l4), o5] [] (n, sl, f) Q := by
  refine w_aload_n cd_170_84 rfl ?_
  refine w_getfield cd_170_85 (show mt_f 12 147 = some (12, 41) by decide +kernel) h7 h8 h10 ?_
  refine w_aload_n cd_170_88 rfl ?_
  refine w_getfield cd_170_89 (show mt_f 12 151 = some (12, 42) by decide +kernel) h12 h13 h15 ?_
  exact w_invokevirtual cd_170_92 (show mt_m 12 525 = some (171, 0) by decide +kernel) (rest := []) rfl (as := [.ref x9, .ref x14]) rfl h17 (Or.inl h18) ⟨Nat.le_of_ble_eq_true rfl, Nat.le_of_ble_eq_true rfl, Nat.le_of_ble_eq_true rfl⟩ h19
theorem b_170_95 {d : Nat} {Q : (Option Value ⊕ Nat) → mi_H → Prop} (n sl : Nat) (f : Nat → mi_C) {l1 : Nat} {l2 : Int64} {l3 : Int64} {l4 : Int32} {o5 : Option Value} (h6 : mi_W d 170 108 [some (.ref l1), some (.long l2), none, some (.long l3), none, some (.int l4), o5] [] (n, sl, f) Q) : mi_W d 170 95 [some (.ref l1), some (.long l2), none, some (.long l3), none, some (.int l4), o5] [] (n, sl, f) Q := by
  exact w_goto cd_170_95 (by decide) h6
theorem b_170_98 {d : Nat} {Q : (Option Value ⊕ Nat) → mi_H → Prop} (n sl : Nat) (f : Nat → mi_C) {l1 : Nat} {l2 : Int64} {l3 : Int64} {l4 : Int32} {o5 : Option Value} {fs6 : List Value} {fs10 : List Value} (h7 : f l1 = .inr (12, fs6)) (h8 : l1 < n) (h9 : 47 < fs6.length) (h11 : (va_up f l1 (.inr (12, fs6.set 47 (.int 0)))) l1 = .inr (12, fs10)) (h12 : l1 < n) (h13 : 48 < fs10.length) (h14 : mi_W d 170 108 [some (.ref l1), some (.long l2), none, some (.long l3), none, some (.int l4), o5] [] (n, sl, (va_up (va_up f l1 (.inr (12, fs6.set 47 (.int 0)))) l1 (.inr (12, fs10.set 48 (.int 0))))) Q) : mi_W d 170 98 [some (.ref l1), some (.long l2), none, some (.long l3), none, some (.int l4), o5] [] (n, sl, f) Q := by
  refine w_aload_n cd_170_98 rfl ?_
  refine w_iconst (v := 0) cd_170_99 (by decide) ?_
  refine w_putfield (w := .int 0) cd_170_100 (show mt_f 12 490 = some (12, 47) by decide +kernel) h7 h8 ⟨h9, rfl, Or.inl (by decide)⟩ ?_
  refine w_aload_n cd_170_103 rfl ?_
  refine w_iconst (v := 0) cd_170_104 (by decide) ?_
  refine w_putfield (w := .int 0) cd_170_105 (show mt_f 12 493 = some (12, 48) by decide +kernel) h11 h12 ⟨h13, rfl, Or.inl (by decide)⟩ ?_
  exact h14
theorem b_170_108 {d : Nat} {Q : (Option Value ⊕ Nat) → mi_H → Prop} (n sl : Nat) (f : Nat → mi_C) {l1 : Nat} {l2 : Int64} {l3 : Int64} {l4 : Int32} {o5 : Option Value} {fs6 : List Value} {x9 : Int32} {fs11 : List Value} {fs15 : List Value} {x18 : Int32} {fs20 : List Value} (h7 : f l1 = .inr (12, fs6)) (h8 : l1 < n) (h10 : fs6[47]? = some (.int x9)) (h12 : f l1 = .inr (12, fs11)) (h13 : l1 < n) (h14 : 65 < fs11.length) (h16 : (va_up f l1 (.inr (12, fs11.set 65 (.int x9)))) l1 = .inr (12, fs15)) (h17 : l1 < n) (h19 : fs15[48]? = some (.int x18)) (h21 : (va_up f l1 (.inr (12, fs11.set 65 (.int x9)))) l1 = .inr (12, fs20)) (h22 : l1 < n) (h23 : 66 < fs20.length) (h24 : mi_W d 170 127 [some (.ref l1), some (.long l2), none, some (.long l3), none, some (.int l4), some (.int 0)] [] (n, sl, (va_up (va_up f l1 (.inr (12, fs11.set 65 (.int x9)))) l1 (.inr (12, fs20.set 66 (.int x18))))) Q) : mi_W d 170 108 [some (.ref l1), some (.long l2), none, some (.long l3), none, some (.int l4), o5] [] (n, sl, f) Q := by
  refine w_aload_n cd_170_108 rfl ?_
  refine w_aload_n cd_170_109 rfl ?_
  refine w_getfield cd_170_110 (show mt_f 12 490 = some (12, 47) by decide +kernel) h7 h8 h10 ?_
  refine w_putfield (w := .int x9) cd_170_113 (show mt_f 12 536 = some (12, 65) by decide +kernel) h12 h13 ⟨h14, rfl, Or.inl (by decide)⟩ ?_
  refine w_aload_n cd_170_116 rfl ?_
  refine w_aload_n cd_170_117 rfl ?_
  refine w_getfield cd_170_118 (show mt_f 12 493 = some (12, 48) by decide +kernel) h16 h17 h19 ?_
  refine w_putfield (w := .int x18) cd_170_121 (show mt_f 12 539 = some (12, 66) by decide +kernel) h21 h22 ⟨h23, rfl, Or.inl (by decide)⟩ ?_
  refine w_iconst (v := 0) cd_170_124 (by decide) ?_
  refine w_istore (ls' := [some (.ref l1), some (.long l2), none, some (.long l3), none, some (.int l4), some (.int 0)]) cd_170_125 (Nat.le_of_ble_eq_true rfl) rfl ?_
  exact h24
theorem b_170_127 {d : Nat} {Q : (Option Value ⊕ Nat) → mi_H → Prop} (n sl : Nat) (f : Nat → mi_C) {l1 : Nat} {l2 : Int64} {l3 : Int64} {l4 : Int32} {l5 : Int32} {fs6 : List Value} {x9 : Int32} (h7 : f l1 = .inr (12, fs6)) (h8 : l1 < n) (h10 : fs6[47]? = some (.int x9)) (h11 : x9 ≤ l5 → mi_W d 170 170 [some (.ref l1), some (.long l2), none, some (.long l3), none, some (.int l4), some (.int l5)] [] (n, sl, f) Q) (h12 : ¬ (x9 ≤ l5) → mi_W d 170 136 [some (.ref l1), some (.long l2), none, some (.long l3), none, some (.int l4), some (.int l5)] [] (n, sl, f) Q) : mi_W d 170 127 [some (.ref l1), some (.long l2), none, some (.long l3), none, some (.int l4), some (.int l5)] [] (n, sl, f) Q := by
  refine w_iload cd_170_127 rfl ?_
  refine w_aload_n cd_170_129 rfl ?_
  refine w_getfield cd_170_130 (show mt_f 12 490 = some (12, 47) by decide +kernel) h7 h8 h10 ?_
  exact w_if_icmpge cd_170_133 (by decide) h11 h12
theorem b_170_136 {d : Nat} {Q : (Option Value ⊕ Nat) → mi_H → Prop} (n sl : Nat) (f : Nat → mi_C) {l1 : Nat} {l2 : Int64} {l3 : Int64} {l4 : Int32} {l5 : Int32} {fs6 : List Value} {x9 : Nat} {fs11 : List Value} {x14 : Nat} (m16 i16 : Nat) (g16 : Nat → Int32) (m20 i20 : Nat) (g20 : Nat → Int32) {fs24 : List Value} {x27 : Nat} {fs29 : List Value} {x32 : Nat} (m34 i34 : Nat) (g34 : Nat → Int32) (m38 i38 : Nat) (g38 : Nat → Int32) (h7 : f l1 = .inr (12, fs6)) (h8 : l1 < n) (h10 : fs6[67]? = some (.ref x9)) (h12 : f l1 = .inr (12, fs11)) (h13 : l1 < n) (h15 : fs11[49]? = some (.ref x14)) (h17 : f x14 = .inl (0, m16, .inl g16)) (h18 : x14 < n ∨ x14 = mi_SC) (h19 : mi_ix l5 m16 i16) (h21 : f x9 = .inl (0, m20, .inl g20)) (h22 : x9 < n) (h23 : mi_ix l5 m20 i20) (h25 : (va_up f x9 (.inl (0, m20, .inl (upd g20 i20 (g16 i16))))) l1 = .inr (12, fs24)) (h26 : l1 < n) (h28 : fs24[68]? = some (.ref x27)) (h30 : (va_up f x9 (.inl (0, m20, .inl (upd g20 i20 (g16 i16))))) l1 = .inr (12, fs29)) (h31 : l1 < n) (h33 : fs29[50]? = some (.ref x32)) (h35 : (va_up f x9 (.inl (0, m20, .inl (upd g20 i20 (g16 i16))))) x32 = .inl (0, m34, .inl g34)) (h36 : x32 < n ∨ x32 = mi_SC) (h37 : mi_ix l5 m34 i34) (h39 : (va_up f x9 (.inl (0, m20, .inl (upd g20 i20 (g16 i16))))) x27 = .inl (0, m38, .inl g38)) (h40 : x27 < n) (h41 : mi_ix l5 m38 i38) (h42 : mi_W d 170 127 [some (.ref l1), some (.long l2), none, some (.long l3), none, some (.int l4), some (.int (l5 + 1))] [] (n, sl, (va_up (va_up f x9 (.inl (0, m20, .inl (upd g20 i20 (g16 i16))))) x27 (.inl (0, m38, .inl (upd g38 i38 (g34 i34)))))) Q) : mi_W d 170 136 [some (.ref l1), some (.long l2), none, some (.long l3), none, some (.int l4), some (.int l5)] [] (n, sl, f) Q := by
  refine w_aload_n cd_170_136 rfl ?_
  refine w_getfield cd_170_137 (show mt_f 12 193 = some (12, 67) by decide +kernel) h7 h8 h10 ?_
  refine w_iload cd_170_140 rfl ?_
  refine w_aload_n cd_170_142 rfl ?_
  refine w_getfield cd_170_143 (show mt_f 12 154 = some (12, 49) by decide +kernel) h12 h13 h15 ?_
  refine w_iload cd_170_146 rfl ?_
  refine w_iaload cd_170_148 h17 h18 h19 ?_
  refine w_iastore cd_170_149 h21 h22 h23 ?_
  refine w_aload_n cd_170_150 rfl ?_
  refine w_getfield cd_170_151 (show mt_f 12 196 = some (12, 68) by decide +kernel) h25 h26 h28 ?_
  refine w_iload cd_170_154 rfl ?_
  refine w_aload_n cd_170_156 rfl ?_
  refine w_getfield cd_170_157 (show mt_f 12 157 = some (12, 50) by decide +kernel) h30 h31 h33 ?_
  refine w_iload cd_170_160 rfl ?_
  refine w_iaload cd_170_162 h35 h36 h37 ?_
  refine w_iastore cd_170_163 h39 h40 h41 ?_
  refine w_iinc (v := 1) (ls' := [some (.ref l1), some (.long l2), none, some (.long l3), none, some (.int l4), some (.int (l5 + 1))]) cd_170_164 rfl (by decide) rfl ?_
  exact w_goto cd_170_167 (by decide) h42
theorem b_170_170 {d : Nat} {Q : (Option Value ⊕ Nat) → mi_H → Prop} (n sl : Nat) (f : Nat → mi_C) {l1 : Nat} {l2 : Int64} {l3 : Int64} {l4 : Int32} {l5 : Int32} (h6 : mi_W d 170 173 [some (.ref l1), some (.long l2), none, some (.long l3), none, some (.int l4), some (.int 0)] [] (n, sl, f) Q) : mi_W d 170 170 [some (.ref l1), some (.long l2), none, some (.long l3), none, some (.int l4), some (.int l5)] [] (n, sl, f) Q := by
  refine w_iconst (v := 0) cd_170_170 (by decide) ?_
  refine w_istore (ls' := [some (.ref l1), some (.long l2), none, some (.long l3), none, some (.int l4), some (.int 0)]) cd_170_171 (Nat.le_of_ble_eq_true rfl) rfl ?_
  exact h6
theorem b_170_173 {d : Nat} {Q : (Option Value ⊕ Nat) → mi_H → Prop} (n sl : Nat) (f : Nat → mi_C) {l1 : Nat} {l2 : Int64} {l3 : Int64} {l4 : Int32} {l5 : Int32} {fs6 : List Value} {x9 : Int32} (h7 : f l1 = .inr (12, fs6)) (h8 : l1 < n) (h10 : fs6[48]? = some (.int x9)) (h11 : x9 ≤ l5 → mi_W d 170 244 [some (.ref l1), some (.long l2), none, some (.long l3), none, some (.int l4), some (.int l5)] [] (n, sl, f) Q) (h12 : ¬ (x9 ≤ l5) → mi_W d 170 182 [some (.ref l1), some (.long l2), none, some (.long l3), none, some (.int l4), some (.int l5)] [] (n, sl, f) Q) : mi_W d 170 173 [some (.ref l1), some (.long l2), none, some (.long l3), none, some (.int l4), some (.int l5)] [] (n, sl, f) Q := by
  refine w_iload cd_170_173 rfl ?_
  refine w_aload_n cd_170_175 rfl ?_
  refine w_getfield cd_170_176 (show mt_f 12 493 = some (12, 48) by decide +kernel) h7 h8 h10 ?_
  exact w_if_icmpge cd_170_179 (by decide) h11 h12
theorem b_170_182 {d : Nat} {Q : (Option Value ⊕ Nat) → mi_H → Prop} (n sl : Nat) (f : Nat → mi_C) {l1 : Nat} {l2 : Int64} {l3 : Int64} {l4 : Int32} {l5 : Int32} {fs6 : List Value} {x9 : Nat} {fs11 : List Value} {x14 : Nat} (m16 i16 : Nat) (g16 : Nat → Int32) (m20 i20 : Nat) (g20 : Nat → Int32) {fs24 : List Value} {x27 : Nat} {fs29 : List Value} {x32 : Nat} (m34 i34 : Nat) (g34 : Nat → Int32) (m38 i38 : Nat) (g38 : Nat → Int32) {fs42 : List Value} {x45 : Nat} {fs47 : List Value} {x50 : Nat} (m52 i52 : Nat) (g52 : Nat → Int32) (m56 i56 : Nat) (g56 : Nat → Int32) {fs60 : List Value} {x63 : Nat} {fs65 : List Value} {x68 : Nat} (m70 i70 : Nat) (g70 : Nat → Int64) (m74 i74 : Nat) (g74 : Nat → Int64) (h7 : f l1 = .inr (12, fs6)) (h8 : l1 < n) (h10 : fs6[69]? = some (.ref x9)) (h12 : f l1 = .inr (12, fs11)) (h13 : l1 < n) (h15 : fs11[51]? = some (.ref x14)) (h17 : f x14 = .inl (0, m16, .inl g16)) (h18 : x14 < n ∨ x14 = mi_SC) (h19 : mi_ix l5 m16 i16) (h21 : f x9 = .inl (0, m20, .inl g20)) (h22 : x9 < n) (h23 : mi_ix l5 m20 i20) (h25 : (va_up f x9 (.inl (0, m20, .inl (upd g20 i20 (g16 i16))))) l1 = .inr (12, fs24)) (h26 : l1 < n) (h28 : fs24[70]? = some (.ref x27)) (h30 : (va_up f x9 (.inl (0, m20, .inl (upd g20 i20 (g16 i16))))) l1 = .inr (12, fs29)) (h31 : l1 < n) (h33 : fs29[52]? = some (.ref x32)) (h35 : (va_up f x9 (.inl (0, m20, .inl (upd g20 i20 (g16 i16))))) x32 = .inl (0, m34, .inl g34)) (h36 : x32 < n ∨ x32 = mi_SC) (h37 : mi_ix l5 m34 i34) (h39 : (va_up f x9 (.inl (0, m20, .inl (upd g20 i20 (g16 i16))))) x27 = .inl (0, m38, .inl g38)) (h40 : x27 < n) (h41 : mi_ix l5 m38 i38) (h43 : (va_up (va_up f x9 (.inl (0, m20, .inl (upd g20 i20 (g16 i16))))) x27 (.inl (0, m38, .inl (upd g38 i38 (g34 i34))))) l1 = .inr (12, fs42)) (h44 : l1 < n) (h46 : fs42[71]? = some (.ref x45)) (h48 : (va_up (va_up f x9 (.inl (0, m20, .inl (upd g20 i20 (g16 i16))))) x27 (.inl (0, m38, .inl (upd g38 i38 (g34 i34))))) l1 = .inr (12, fs47)) (h49 : l1 < n) (h51 : fs47[53]? = some (.ref x50)) (h53 : (va_up (va_up f x9 (.inl (0, m20, .inl (upd g20 i20 (g16 i16))))) x27 (.inl (0, m38, .inl (upd g38 i38 (g34 i34))))) x50 = .inl (0, m52, .inl g52)) (h54 : x50 < n ∨ x50 = mi_SC) (h55 : mi_ix l5 m52 i52) (h57 : (va_up (va_up f x9 (.inl (0, m20, .inl (upd g20 i20 (g16 i16))))) x27 (.inl (0, m38, .inl (upd g38 i38 (g34 i34))))) x45 = .inl (0, m56, .inl g56)) (h58 : x45 < n) (h59 : mi_ix l5 m56 i56) (h61 : (va_up (va_up (va_up f x9 (.inl (0, m20, .inl (upd g20 i20 (g16 i16))))) x27 (.inl (0, m38, .inl (upd g38 i38 (g34 i34))))) x45 (.inl (0, m56, .inl (upd g56 i56 (g52 i52))))) l1 = .inr (12, fs60)) (h62 : l1 < n) (h64 : fs60[72]? = some (.ref x63)) (h66 : (va_up (va_up (va_up f x9 (.inl (0, m20, .inl (upd g20 i20 (g16 i16))))) x27 (.inl (0, m38, .inl (upd g38 i38 (g34 i34))))) x45 (.inl (0, m56, .inl (upd g56 i56 (g52 i52))))) l1 = .inr (12, fs65)) (h67 : l1 < n) (h69 : fs65[54]? = some (.ref x68)) (h71 : (va_up (va_up (va_up f x9 (.inl (0, m20, .inl (upd g20 i20 (g16 i16))))) x27 (.inl (0, m38, .inl (upd g38 i38 (g34 i34))))) x45 (.inl (0, m56, .inl (upd g56 i56 (g52 i52))))) x68 = .inl (3, m70, .inr (.inl g70))) (h72 : x68 < n) (h73 : mi_ix l5 m70 i70) (h75 : (va_up (va_up (va_up f x9 (.inl (0, m20, .inl (upd g20 i20 (g16 i16))))) x27 (.inl (0, m38, .inl (upd g38 i38 (g34 i34))))) x45 (.inl (0, m56, .inl (upd g56 i56 (g52 i52))))) x63 = .inl (3, m74, .inr (.inl g74))) (h76 : x63 < n) (h77 : mi_ix l5 m74 i74) (h78 : mi_W d 170 173 [some (.ref l1), some (.long l2), none, some (.long l3), none, some (.int l4), some (.int (l5 + 1))] [] (n, sl, (va_up (va_up (va_up (va_up f x9 (.inl (0, m20, .inl (upd g20 i20 (g16 i16))))) x27 (.inl (0, m38, .inl (upd g38 i38 (g34 i34))))) x45 (.inl (0, m56, .inl (upd g56 i56 (g52 i52))))) x63 (.inl (3, m74, .inr (.inl (vp_updL g74 i74 (g70 i70))))))) Q) : mi_W d 170 182 [some (.ref l1), some (.long l2), none, some (.long l3), none, some (.int l4), some (.int l5)] [] (n, sl, f) Q := by
  refine w_aload_n cd_170_182 rfl ?_
  refine w_getfield cd_170_183 (show mt_f 12 199 = some (12, 69) by decide +kernel) h7 h8 h10 ?_
  refine w_iload cd_170_186 rfl ?_
  refine w_aload_n cd_170_188 rfl ?_
  refine w_getfield cd_170_189 (show mt_f 12 160 = some (12, 51) by decide +kernel) h12 h13 h15 ?_
  refine w_iload cd_170_192 rfl ?_
  refine w_iaload cd_170_194 h17 h18 h19 ?_
  refine w_iastore cd_170_195 h21 h22 h23 ?_
  refine w_aload_n cd_170_196 rfl ?_
  refine w_getfield cd_170_197 (show mt_f 12 202 = some (12, 70) by decide +kernel) h25 h26 h28 ?_
  refine w_iload cd_170_200 rfl ?_
  refine w_aload_n cd_170_202 rfl ?_
  refine w_getfield cd_170_203 (show mt_f 12 163 = some (12, 52) by decide +kernel) h30 h31 h33 ?_
  refine w_iload cd_170_206 rfl ?_
  refine w_iaload cd_170_208 h35 h36 h37 ?_
  refine w_iastore cd_170_209 h39 h40 h41 ?_
  refine w_aload_n cd_170_210 rfl ?_
  refine w_getfield cd_170_211 (show mt_f 12 205 = some (12, 71) by decide +kernel) h43 h44 h46 ?_
  refine w_iload cd_170_214 rfl ?_
  refine w_aload_n cd_170_216 rfl ?_
  refine w_getfield cd_170_217 (show mt_f 12 166 = some (12, 53) by decide +kernel) h48 h49 h51 ?_
  refine w_iload cd_170_220 rfl ?_
  refine w_iaload cd_170_222 h53 h54 h55 ?_
  refine w_iastore cd_170_223 h57 h58 h59 ?_
  refine w_aload_n cd_170_224 rfl ?_
  refine w_getfield cd_170_225 (show mt_f 12 208 = some (12, 72) by decide +kernel) h61 h62 h64 ?_
  refine w_iload cd_170_228 rfl ?_
  refine w_aload_n cd_170_230 rfl ?_
  refine w_getfield cd_170_231 (show mt_f 12 169 = some (12, 54) by decide +kernel) h66 h67 h69 ?_
  refine w_iload cd_170_234 rfl ?_
  refine w_laload cd_170_236 h71 h72 h73 ?_
  refine w_lastore cd_170_237 h75 h76 h77 ?_
  refine w_iinc (v := 1) (ls' := [some (.ref l1), some (.long l2), none, some (.long l3), none, some (.int l4), some (.int (l5 + 1))]) cd_170_238 rfl (by decide) rfl ?_
  exact w_goto cd_170_241 (by decide) h78
theorem b_170_244 {d : Nat} {Q : (Option Value ⊕ Nat) → mi_H → Prop} (n sl : Nat) (f : Nat → mi_C) {l1 : Nat} {l2 : Int64} {l3 : Int64} {l4 : Int32} {l5 : Int32} (h6 : Q (.inl (some (.int l4))) (n, sl, f)) : mi_W d 170 244 [some (.ref l1), some (.long l2), none, some (.long l3), none, some (.int l4), some (.int l5)] [] (n, sl, f) Q := by
  refine w_iload cd_170_244 rfl ?_
  exact w_ireturn_i cd_170_246 (by decide +kernel) h6
/-! MarloweHostModel$State.copy(LMarloweHostModel$State;)V -/
set_option maxRecDepth 100000 in
theorem mq_171 : mt_q 171 = my_171 := rfl
set_option maxRecDepth 100000 in
theorem ci_171 : mt_inc 0 my_171.cd = true := by decide +kernel
theorem cd_171_0 : mt_cd 171 0 = some (.aload_n 0) := mt_cd_of (q := (0, .aload_n 0, 1)) mq_171 ci_171 (List.mem_of_getElem? (i := 0) rfl)
theorem cd_171_1 : mt_cd 171 1 = some (.aload_n 1) := mt_cd_of (q := (1, .aload_n 1, 1)) mq_171 ci_171 (List.mem_of_getElem? (i := 1) rfl)
theorem cd_171_2 : mt_cd 171 2 = some (.getfield 28) := mt_cd_of (q := (2, .getfield 28, 3)) mq_171 ci_171 (List.mem_of_getElem? (i := 2) rfl)
theorem cd_171_5 : mt_cd 171 5 = some (.putfield 28) := mt_cd_of (q := (5, .putfield 28, 3)) mq_171 ci_171 (List.mem_of_getElem? (i := 3) rfl)
theorem cd_171_8 : mt_cd 171 8 = some (.aload_n 0) := mt_cd_of (q := (8, .aload_n 0, 1)) mq_171 ci_171 (List.mem_of_getElem? (i := 4) rfl)
theorem cd_171_9 : mt_cd 171 9 = some (.aload_n 1) := mt_cd_of (q := (9, .aload_n 1, 1)) mq_171 ci_171 (List.mem_of_getElem? (i := 5) rfl)
theorem cd_171_10 : mt_cd 171 10 = some (.getfield 32) := mt_cd_of (q := (10, .getfield 32, 3)) mq_171 ci_171 (List.mem_of_getElem? (i := 6) rfl)
theorem cd_171_13 : mt_cd 171 13 = some (.putfield 32) := mt_cd_of (q := (13, .putfield 32, 3)) mq_171 ci_171 (List.mem_of_getElem? (i := 7) rfl)
theorem cd_171_16 : mt_cd 171 16 = some (.iconst 0) := mt_cd_of (q := (16, .iconst 0, 1)) mq_171 ci_171 (List.mem_of_getElem? (i := 8) rfl)
theorem cd_171_17 : mt_cd 171 17 = some (.istore_n 2) := mt_cd_of (q := (17, .istore_n 2, 1)) mq_171 ci_171 (List.mem_of_getElem? (i := 9) rfl)
theorem cd_171_18 : mt_cd 171 18 = some (.iload_n 2) := mt_cd_of (q := (18, .iload_n 2, 1)) mq_171 ci_171 (List.mem_of_getElem? (i := 10) rfl)
theorem cd_171_19 : mt_cd 171 19 = some (.bipush 32) := mt_cd_of (q := (19, .bipush 32, 2)) mq_171 ci_171 (List.mem_of_getElem? (i := 11) rfl)
theorem cd_171_21 : mt_cd 171 21 = some (.if_icmp .ge 21) := mt_cd_of (q := (21, .if_icmp .ge 21, 3)) mq_171 ci_171 (List.mem_of_getElem? (i := 12) rfl)
theorem cd_171_24 : mt_cd 171 24 = some (.aload_n 0) := mt_cd_of (q := (24, .aload_n 0, 1)) mq_171 ci_171 (List.mem_of_getElem? (i := 13) rfl)
theorem cd_171_25 : mt_cd 171 25 = some (.getfield 9) := mt_cd_of (q := (25, .getfield 9, 3)) mq_171 ci_171 (List.mem_of_getElem? (i := 14) rfl)
theorem cd_171_28 : mt_cd 171 28 = some (.iload_n 2) := mt_cd_of (q := (28, .iload_n 2, 1)) mq_171 ci_171 (List.mem_of_getElem? (i := 15) rfl)
theorem cd_171_29 : mt_cd 171 29 = some (.aload_n 1) := mt_cd_of (q := (29, .aload_n 1, 1)) mq_171 ci_171 (List.mem_of_getElem? (i := 16) rfl)
theorem cd_171_30 : mt_cd 171 30 = some (.getfield 9) := mt_cd_of (q := (30, .getfield 9, 3)) mq_171 ci_171 (List.mem_of_getElem? (i := 17) rfl)
theorem cd_171_33 : mt_cd 171 33 = some (.iload_n 2) := mt_cd_of (q := (33, .iload_n 2, 1)) mq_171 ci_171 (List.mem_of_getElem? (i := 18) rfl)
theorem cd_171_34 : mt_cd 171 34 = some (.laload) := mt_cd_of (q := (34, .laload, 1)) mq_171 ci_171 (List.mem_of_getElem? (i := 19) rfl)
theorem cd_171_35 : mt_cd 171 35 = some (.lastore) := mt_cd_of (q := (35, .lastore, 1)) mq_171 ci_171 (List.mem_of_getElem? (i := 20) rfl)
theorem cd_171_36 : mt_cd 171 36 = some (.iinc 2 1) := mt_cd_of (q := (36, .iinc 2 1, 3)) mq_171 ci_171 (List.mem_of_getElem? (i := 21) rfl)
theorem cd_171_39 : mt_cd 171 39 = some (.goto (-21)) := mt_cd_of (q := (39, .goto (-21), 3)) mq_171 ci_171 (List.mem_of_getElem? (i := 22) rfl)
theorem cd_171_42 : mt_cd 171 42 = some (.iconst 0) := mt_cd_of (q := (42, .iconst 0, 1)) mq_171 ci_171 (List.mem_of_getElem? (i := 23) rfl)
theorem cd_171_43 : mt_cd 171 43 = some (.istore_n 2) := mt_cd_of (q := (43, .istore_n 2, 1)) mq_171 ci_171 (List.mem_of_getElem? (i := 24) rfl)
theorem cd_171_44 : mt_cd 171 44 = some (.iload_n 2) := mt_cd_of (q := (44, .iload_n 2, 1)) mq_171 ci_171 (List.mem_of_getElem? (i := 25) rfl)
theorem cd_171_45 : mt_cd 171 45 = some (.bipush 8) := mt_cd_of (q := (45, .bipush 8, 2)) mq_171 ci_171 (List.mem_of_getElem? (i := 26) rfl)
theorem cd_171_47 : mt_cd 171 47 = some (.if_icmp .ge 57) := mt_cd_of (q := (47, .if_icmp .ge 57, 3)) mq_171 ci_171 (List.mem_of_getElem? (i := 27) rfl)
theorem cd_171_50 : mt_cd 171 50 = some (.aload_n 0) := mt_cd_of (q := (50, .aload_n 0, 1)) mq_171 ci_171 (List.mem_of_getElem? (i := 28) rfl)
theorem cd_171_51 : mt_cd 171 51 = some (.getfield 15) := mt_cd_of (q := (51, .getfield 15, 3)) mq_171 ci_171 (List.mem_of_getElem? (i := 29) rfl)
theorem cd_171_54 : mt_cd 171 54 = some (.iload_n 2) := mt_cd_of (q := (54, .iload_n 2, 1)) mq_171 ci_171 (List.mem_of_getElem? (i := 30) rfl)
theorem cd_171_55 : mt_cd 171 55 = some (.aload_n 1) := mt_cd_of (q := (55, .aload_n 1, 1)) mq_171 ci_171 (List.mem_of_getElem? (i := 31) rfl)
theorem cd_171_56 : mt_cd 171 56 = some (.getfield 15) := mt_cd_of (q := (56, .getfield 15, 3)) mq_171 ci_171 (List.mem_of_getElem? (i := 32) rfl)
theorem cd_171_59 : mt_cd 171 59 = some (.iload_n 2) := mt_cd_of (q := (59, .iload_n 2, 1)) mq_171 ci_171 (List.mem_of_getElem? (i := 33) rfl)
theorem cd_171_60 : mt_cd 171 60 = some (.laload) := mt_cd_of (q := (60, .laload, 1)) mq_171 ci_171 (List.mem_of_getElem? (i := 34) rfl)
theorem cd_171_61 : mt_cd 171 61 = some (.lastore) := mt_cd_of (q := (61, .lastore, 1)) mq_171 ci_171 (List.mem_of_getElem? (i := 35) rfl)
theorem cd_171_62 : mt_cd 171 62 = some (.aload_n 0) := mt_cd_of (q := (62, .aload_n 0, 1)) mq_171 ci_171 (List.mem_of_getElem? (i := 36) rfl)
theorem cd_171_63 : mt_cd 171 63 = some (.getfield 18) := mt_cd_of (q := (63, .getfield 18, 3)) mq_171 ci_171 (List.mem_of_getElem? (i := 37) rfl)
theorem cd_171_66 : mt_cd 171 66 = some (.iload_n 2) := mt_cd_of (q := (66, .iload_n 2, 1)) mq_171 ci_171 (List.mem_of_getElem? (i := 38) rfl)
theorem cd_171_67 : mt_cd 171 67 = some (.aload_n 1) := mt_cd_of (q := (67, .aload_n 1, 1)) mq_171 ci_171 (List.mem_of_getElem? (i := 39) rfl)
theorem cd_171_68 : mt_cd 171 68 = some (.getfield 18) := mt_cd_of (q := (68, .getfield 18, 3)) mq_171 ci_171 (List.mem_of_getElem? (i := 40) rfl)
theorem cd_171_71 : mt_cd 171 71 = some (.iload_n 2) := mt_cd_of (q := (71, .iload_n 2, 1)) mq_171 ci_171 (List.mem_of_getElem? (i := 41) rfl)
theorem cd_171_72 : mt_cd 171 72 = some (.laload) := mt_cd_of (q := (72, .laload, 1)) mq_171 ci_171 (List.mem_of_getElem? (i := 42) rfl)
theorem cd_171_73 : mt_cd 171 73 = some (.lastore) := mt_cd_of (q := (73, .lastore, 1)) mq_171 ci_171 (List.mem_of_getElem? (i := 43) rfl)
theorem cd_171_74 : mt_cd 171 74 = some (.aload_n 0) := mt_cd_of (q := (74, .aload_n 0, 1)) mq_171 ci_171 (List.mem_of_getElem? (i := 44) rfl)
theorem cd_171_75 : mt_cd 171 75 = some (.getfield 21) := mt_cd_of (q := (75, .getfield 21, 3)) mq_171 ci_171 (List.mem_of_getElem? (i := 45) rfl)
theorem cd_171_78 : mt_cd 171 78 = some (.iload_n 2) := mt_cd_of (q := (78, .iload_n 2, 1)) mq_171 ci_171 (List.mem_of_getElem? (i := 46) rfl)
theorem cd_171_79 : mt_cd 171 79 = some (.aload_n 1) := mt_cd_of (q := (79, .aload_n 1, 1)) mq_171 ci_171 (List.mem_of_getElem? (i := 47) rfl)
theorem cd_171_80 : mt_cd 171 80 = some (.getfield 21) := mt_cd_of (q := (80, .getfield 21, 3)) mq_171 ci_171 (List.mem_of_getElem? (i := 48) rfl)
theorem cd_171_83 : mt_cd 171 83 = some (.iload_n 2) := mt_cd_of (q := (83, .iload_n 2, 1)) mq_171 ci_171 (List.mem_of_getElem? (i := 49) rfl)
theorem cd_171_84 : mt_cd 171 84 = some (.baload) := mt_cd_of (q := (84, .baload, 1)) mq_171 ci_171 (List.mem_of_getElem? (i := 50) rfl)
theorem cd_171_85 : mt_cd 171 85 = some (.bastore) := mt_cd_of (q := (85, .bastore, 1)) mq_171 ci_171 (List.mem_of_getElem? (i := 51) rfl)
theorem cd_171_86 : mt_cd 171 86 = some (.aload_n 0) := mt_cd_of (q := (86, .aload_n 0, 1)) mq_171 ci_171 (List.mem_of_getElem? (i := 52) rfl)
theorem cd_171_87 : mt_cd 171 87 = some (.getfield 25) := mt_cd_of (q := (87, .getfield 25, 3)) mq_171 ci_171 (List.mem_of_getElem? (i := 53) rfl)
theorem cd_171_90 : mt_cd 171 90 = some (.iload_n 2) := mt_cd_of (q := (90, .iload_n 2, 1)) mq_171 ci_171 (List.mem_of_getElem? (i := 54) rfl)
theorem cd_171_91 : mt_cd 171 91 = some (.aload_n 1) := mt_cd_of (q := (91, .aload_n 1, 1)) mq_171 ci_171 (List.mem_of_getElem? (i := 55) rfl)
theorem cd_171_92 : mt_cd 171 92 = some (.getfield 25) := mt_cd_of (q := (92, .getfield 25, 3)) mq_171 ci_171 (List.mem_of_getElem? (i := 56) rfl)
theorem cd_171_95 : mt_cd 171 95 = some (.iload_n 2) := mt_cd_of (q := (95, .iload_n 2, 1)) mq_171 ci_171 (List.mem_of_getElem? (i := 57) rfl)
theorem cd_171_96 : mt_cd 171 96 = some (.baload) := mt_cd_of (q := (96, .baload, 1)) mq_171 ci_171 (List.mem_of_getElem? (i := 58) rfl)
theorem cd_171_97 : mt_cd 171 97 = some (.bastore) := mt_cd_of (q := (97, .bastore, 1)) mq_171 ci_171 (List.mem_of_getElem? (i := 59) rfl)
theorem cd_171_98 : mt_cd 171 98 = some (.iinc 2 1) := mt_cd_of (q := (98, .iinc 2 1, 3)) mq_171 ci_171 (List.mem_of_getElem? (i := 60) rfl)
theorem cd_171_101 : mt_cd 171 101 = some (.goto (-57)) := mt_cd_of (q := (101, .goto (-57), 3)) mq_171 ci_171 (List.mem_of_getElem? (i := 61) rfl)
theorem cd_171_104 : mt_cd 171 104 = some (.return_) := mt_cd_of (q := (104, .return_, 1)) mq_171 ci_171 (List.mem_of_getElem? (i := 62) rfl)
theorem b_171_0 {d : Nat} {Q : (Option Value ⊕ Nat) → mi_H → Prop} (n sl : Nat) (f : Nat → mi_C) {l1 : Nat} {l2 : Nat} {o3 : Option Value} {fs4 : List Value} {x7 : Int32} {fs9 : List Value} {fs13 : List Value} {x16 : Int64} {fs18 : List Value} (h5 : f l2 = .inr (13, fs4)) (h6 : l2 < n) (h8 : fs4[0]? = some (.int x7)) (h10 : f l1 = .inr (13, fs9)) (h11 : l1 < n) (h12 : 0 < fs9.length) (h14 : (va_up f l1 (.inr (13, fs9.set 0 (.int x7)))) l2 = .inr (13, fs13)) (h15 : l2 < n) (h17 : fs13[1]? = some (.long x16)) (h19 : (va_up f l1 (.inr (13, fs9.set 0 (.int x7)))) l1 = .inr (13, fs18)) (h20 : l1 < n) (h21 : 1 < fs18.length) (h22 : mi_W d 171 18 [some (.ref l1), some (.ref l2), some (.int 0)] [] (n, sl, (va_up (va_up f l1 (.inr (13, fs9.set 0 (.int x7)))) l1 (.inr (13, fs18.set 1 (.long x16))))) Q) : mi_W d 171 0 [some (.ref l1), some (.ref l2), o3] [] (n, sl, f) Q := by
  refine w_aload_n cd_171_0 rfl ?_
  refine w_aload_n cd_171_1 rfl ?_
  refine w_getfield cd_171_2 (show mt_f 13 28 = some (13, 0) by decide +kernel) h5 h6 h8 ?_
  refine w_putfield (w := .int x7) cd_171_5 (show mt_f 13 28 = some (13, 0) by decide +kernel) h10 h11 ⟨h12, rfl, Or.inl (by decide)⟩ ?_
  refine w_aload_n cd_171_8 rfl ?_
  refine w_aload_n cd_171_9 rfl ?_
  refine w_getfield cd_171_10 (show mt_f 13 32 = some (13, 1) by decide +kernel) h14 h15 h17 ?_
  refine w_putfield (w := .long x16) cd_171_13 (show mt_f 13 32 = some (13, 1) by decide +kernel) h19 h20 ⟨h21, rfl, Or.inl (by decide)⟩ ?_
  refine w_iconst (v := 0) cd_171_16 (by decide) ?_
  refine w_istore_n (ls' := [some (.ref l1), some (.ref l2), some (.int 0)]) cd_171_17 (Nat.le_of_ble_eq_true rfl) rfl ?_
  exact h22
theorem b_171_18 {d : Nat} {Q : (Option Value ⊕ Nat) → mi_H → Prop} (n sl : Nat) (f : Nat → mi_C) {l1 : Nat} {l2 : Nat} {l3 : Int32} (h4 : 32 ≤ l3 → mi_W d 171 42 [some (.ref l1), some (.ref l2), some (.int l3)] [] (n, sl, f) Q) (h5 : ¬ (32 ≤ l3) → mi_W d 171 24 [some (.ref l1), some (.ref l2), some (.int l3)] [] (n, sl, f) Q) : mi_W d 171 18 [some (.ref l1), some (.ref l2), some (.int l3)] [] (n, sl, f) Q := by
  refine w_iload_n cd_171_18 rfl ?_
  refine w_bipush (v := 32) cd_171_19 (by decide) ?_
  exact w_if_icmpge cd_171_21 (by decide) h4 h5
theorem b_171_24 {d : Nat} {Q : (Option Value ⊕ Nat) → mi_H → Prop} (n sl : Nat) (f : Nat → mi_C) {l1 : Nat} {l2 : Nat} {l3 : Int32} {fs4 : List Value} {x7 : Nat} {fs9 : List Value} {x12 : Nat} (m14 i14 : Nat) (g14 : Nat → Int64) (m18 i18 : Nat) (g18 : Nat → Int64) (h5 : f l1 = .inr (13, fs4)) (h6 : l1 < n) (h8 : fs4[2]? = some (.ref x7)) (h10 : f l2 = .inr (13, fs9)) (h11 : l2 < n) (h13 : fs9[2]? = some (.ref x12)) (h15 : f x12 = .inl (3, m14, .inr (.inl g14))) (h16 : x12 < n) (h17 : mi_ix l3 m14 i14) (h19 : f x7 = .inl (3, m18, .inr (.inl g18))) (h20 : x7 < n) (h21 : mi_ix l3 m18 i18) (h22 : mi_W d 171 18 [some (.ref l1), some (.ref l2), some (.int (l3 + 1))] [] (n, sl, (va_up f x7 (.inl (3, m18, .inr (.inl (vp_updL g18 i18 (g14 i14))))))) Q) : mi_W d 171 24 [some (.ref l1), some (.ref l2), some (.int l3)] [] (n, sl, f) Q := by
  refine w_aload_n cd_171_24 rfl ?_
  refine w_getfield cd_171_25 (show mt_f 13 9 = some (13, 2) by decide +kernel) h5 h6 h8 ?_
  refine w_iload_n cd_171_28 rfl ?_
  refine w_aload_n cd_171_29 rfl ?_
  refine w_getfield cd_171_30 (show mt_f 13 9 = some (13, 2) by decide +kernel) h10 h11 h13 ?_
  refine w_iload_n cd_171_33 rfl ?_
  refine w_laload cd_171_34 h15 h16 h17 ?_
  refine w_lastore cd_171_35 h19 h20 h21 ?_
  refine w_iinc (v := 1) (ls' := [some (.ref l1), some (.ref l2), some (.int (l3 + 1))]) cd_171_36 rfl (by decide) rfl ?_
  exact w_goto cd_171_39 (by decide) h22
theorem b_171_42 {d : Nat} {Q : (Option Value ⊕ Nat) → mi_H → Prop} (n sl : Nat) (f : Nat → mi_C) {l1 : Nat} {l2 : Nat} {l3 : Int32} (h4 : mi_W d 171 44 [some (.ref l1), some (.ref l2), some (.int 0)] [] (n, sl, f) Q) : mi_W d 171 42 [some (.ref l1), some (.ref l2), some (.int l3)] [] (n, sl, f) Q := by
  refine w_iconst (v := 0) cd_171_42 (by decide) ?_
  refine w_istore_n (ls' := [some (.ref l1), some (.ref l2), some (.int 0)]) cd_171_43 (Nat.le_of_ble_eq_true rfl) rfl ?_
  exact h4
theorem b_171_44 {d : Nat} {Q : (Option Value ⊕ Nat) → mi_H → Prop} (n sl : Nat) (f : Nat → mi_C) {l1 : Nat} {l2 : Nat} {l3 : Int32} (h4 : 8 ≤ l3 → mi_W d 171 104 [some (.ref l1), some (.ref l2), some (.int l3)] [] (n, sl, f) Q) (h5 : ¬ (8 ≤ l3) → mi_W d 171 50 [some (.ref l1), some (.ref l2), some (.int l3)] [] (n, sl, f) Q) : mi_W d 171 44 [some (.ref l1), some (.ref l2), some (.int l3)] [] (n, sl, f) Q := by
  refine w_iload_n cd_171_44 rfl ?_
  refine w_bipush (v := 8) cd_171_45 (by decide) ?_
  exact w_if_icmpge cd_171_47 (by decide) h4 h5
theorem b_171_50 {d : Nat} {Q : (Option Value ⊕ Nat) → mi_H → Prop} (n sl : Nat) (f : Nat → mi_C) {l1 : Nat} {l2 : Nat} {l3 : Int32} {fs4 : List Value} {x7 : Nat} {fs9 : List Value} {x12 : Nat} (m14 i14 : Nat) (g14 : Nat → Int64) (m18 i18 : Nat) (g18 : Nat → Int64) {fs22 : List Value} {x25 : Nat} {fs27 : List Value} {x30 : Nat} (m32 i32 : Nat) (g32 : Nat → Int64) (m36 i36 : Nat) (g36 : Nat → Int64) {fs40 : List Value} {x43 : Nat} {fs45 : List Value} {x48 : Nat} (m50 i50 : Nat) (g50 : Nat → Int32) (m54 i54 : Nat) (g54 : Nat → Int32) {fs58 : List Value} {x61 : Nat} {fs63 : List Value} {x66 : Nat} (m68 i68 : Nat) (g68 : Nat → Int32) (m72 i72 : Nat) (g72 : Nat → Int32) (h5 : f l1 = .inr (13, fs4)) (h6 : l1 < n) (h8 : fs4[3]? = some (.ref x7)) (h10 : f l2 = .inr (13, fs9)) (h11 : l2 < n) (h13 : fs9[3]? = some (.ref x12)) (h15 : f x12 = .inl (3, m14, .inr (.inl g14))) (h16 : x12 < n) (h17 : mi_ix l3 m14 i14) (h19 : f x7 = .inl (3, m18, .inr (.inl g18))) (h20 : x7 < n) (h21 : mi_ix l3 m18 i18) (h23 : (va_up f x7 (.inl (3, m18, .inr (.inl (vp_updL g18 i18 (g14 i14)))))) l1 = .inr (13, fs22)) (h24 : l1 < n) (h26 : fs22[4]? = some (.ref x25)) (h28 : (va_up f x7 (.inl (3, m18, .inr (.inl (vp_updL g18 i18 (g14 i14)))))) l2 = .inr (13, fs27)) (h29 : l2 < n) (h31 : fs27[4]? = some (.ref x30)) (h33 : (va_up f x7 (.inl (3, m18, .inr (.inl (vp_updL g18 i18 (g14 i14)))))) x30 = .inl (3, m32, .inr (.inl g32))) (h34 : x30 < n) (h35 : mi_ix l3 m32 i32) (h37 : (va_up f x7 (.inl (3, m18, .inr (.inl (vp_updL g18 i18 (g14 i14)))))) x25 = .inl (3, m36, .inr (.inl g36))) (h38 : x25 < n) (h39 : mi_ix l3 m36 i36) (h41 : (va_up (va_up f x7 (.inl (3, m18, .inr (.inl (vp_updL g18 i18 (g14 i14)))))) x25 (.inl (3, m36, .inr (.inl (vp_updL g36 i36 (g32 i32)))))) l1 = .inr (13, fs40)) (h42 : l1 < n) (h44 : fs40[5]? = some (.ref x43)) (h46 : (va_up (va_up f x7 (.inl (3, m18, .inr (.inl (vp_updL g18 i18 (g14 i14)))))) x25 (.inl (3, m36, .inr (.inl (vp_updL g36 i36 (g32 i32)))))) l2 = .inr (13, fs45)) (h47 : l2 < n) (h49 : fs45[5]? = some (.ref x48)) (h51 : (va_up (va_up f x7 (.inl (3, m18, .inr (.inl (vp_updL g18 i18 (g14 i14)))))) x25 (.inl (3, m36, .inr (.inl (vp_updL g36 i36 (g32 i32)))))) x48 = .inl (2, m50, .inl g50)) (h52 : x48 < n) (h53 : mi_ix l3 m50 i50) (h55 : (va_up (va_up f x7 (.inl (3, m18, .inr (.inl (vp_updL g18 i18 (g14 i14)))))) x25 (.inl (3, m36, .inr (.inl (vp_updL g36 i36 (g32 i32)))))) x43 = .inl (2, m54, .inl g54)) (h56 : x43 < n) (h57 : mi_ix l3 m54 i54) (h59 : (va_up (va_up (va_up f x7 (.inl (3, m18, .inr (.inl (vp_updL g18 i18 (g14 i14)))))) x25 (.inl (3, m36, .inr (.inl (vp_updL g36 i36 (g32 i32)))))) x43 (.inl (2, m54, .inl (upd g54 i54 (vp_nar .boolean (g50 i50)))))) l1 = .inr (13, fs58)) (h60 : l1 < n) (h62 : fs58[6]? = some (.ref x61)) (h64 : (va_up (va_up (va_up f x7 (.inl (3, m18, .inr (.inl (vp_updL g18 i18 (g14 i14)))))) x25 (.inl (3, m36, .inr (.inl (vp_updL g36 i36 (g32 i32)))))) x43 (.inl (2, m54, .inl (upd g54 i54 (vp_nar .boolean (g50 i50)))))) l2 = .inr (13, fs63)) (h65 : l2 < n) (h67 : fs63[6]? = some (.ref x66)) (h69 : (va_up (va_up (va_up f x7 (.inl (3, m18, .inr (.inl (vp_updL g18 i18 (g14 i14)))))) x25 (.inl (3, m36, .inr (.inl (vp_updL g36 i36 (g32 i32)))))) x43 (.inl (2, m54, .inl (upd g54 i54 (vp_nar .boolean (g50 i50)))))) x66 = .inl (2, m68, .inl g68)) (h70 : x66 < n) (h71 : mi_ix l3 m68 i68) (h73 : (va_up (va_up (va_up f x7 (.inl (3, m18, .inr (.inl (vp_updL g18 i18 (g14 i14)))))) x25 (.inl (3, m36, .inr (.inl (vp_updL g36 i36 (g32 i32)))))) x43 (.inl (2, m54, .inl (upd g54 i54 (vp_nar .boolean (g50 i50)))))) x61 = .inl (2, m72, .inl g72)) (h74 : x61 < n) (h75 : mi_ix l3 m72 i72) (h76 : mi_W d 171 44 [some (.ref l1), some (.ref l2), some (.int (l3 + 1))] [] (n, sl, (va_up (va_up (va_up (va_up f x7 (.inl (3, m18, .inr (.inl (vp_updL g18 i18 (g14 i14)))))) x25 (.inl (3, m36, .inr (.inl (vp_updL g36 i36 (g32 i32)))))) x43 (.inl (2, m54, .inl (upd g54 i54 (vp_nar .boolean (g50 i50)))))) x61 (.inl (2, m72, .inl (upd g72 i72 (vp_nar .boolean (g68 i68))))))) Q) : mi_W d 171 50 [some (.ref l1), some (.ref l2), some (.int l3)] [] (n, sl, f) Q := by
  refine w_aload_n cd_171_50 rfl ?_
  refine w_getfield cd_171_51 (show mt_f 13 15 = some (13, 3) by decide +kernel) h5 h6 h8 ?_
  refine w_iload_n cd_171_54 rfl ?_
  refine w_aload_n cd_171_55 rfl ?_
  refine w_getfield cd_171_56 (show mt_f 13 15 = some (13, 3) by decide +kernel) h10 h11 h13 ?_
  refine w_iload_n cd_171_59 rfl ?_
  refine w_laload cd_171_60 h15 h16 h17 ?_
  refine w_lastore cd_171_61 h19 h20 h21 ?_
  refine w_aload_n cd_171_62 rfl ?_
  refine w_getfield cd_171_63 (show mt_f 13 18 = some (13, 4) by decide +kernel) h23 h24 h26 ?_
  refine w_iload_n cd_171_66 rfl ?_
  refine w_aload_n cd_171_67 rfl ?_
  refine w_getfield cd_171_68 (show mt_f 13 18 = some (13, 4) by decide +kernel) h28 h29 h31 ?_
  refine w_iload_n cd_171_71 rfl ?_
  refine w_laload cd_171_72 h33 h34 h35 ?_
  refine w_lastore cd_171_73 h37 h38 h39 ?_
  refine w_aload_n cd_171_74 rfl ?_
  refine w_getfield cd_171_75 (show mt_f 13 21 = some (13, 5) by decide +kernel) h41 h42 h44 ?_
  refine w_iload_n cd_171_78 rfl ?_
  refine w_aload_n cd_171_79 rfl ?_
  refine w_getfield cd_171_80 (show mt_f 13 21 = some (13, 5) by decide +kernel) h46 h47 h49 ?_
  refine w_iload_n cd_171_83 rfl ?_
  refine w_baload2 cd_171_84 h51 h52 h53 ?_
  refine w_bastore2 cd_171_85 h55 h56 h57 ?_
  refine w_aload_n cd_171_86 rfl ?_
  refine w_getfield cd_171_87 (show mt_f 13 25 = some (13, 6) by decide +kernel) h59 h60 h62 ?_
  refine w_iload_n cd_171_90 rfl ?_
  refine w_aload_n cd_171_91 rfl ?_
  refine w_getfield cd_171_92 (show mt_f 13 25 = some (13, 6) by decide +kernel) h64 h65 h67 ?_
  refine w_iload_n cd_171_95 rfl ?_
  refine w_baload2 cd_171_96 h69 h70 h71 ?_
  refine w_bastore2 cd_171_97 h73 h74 h75 ?_
  refine w_iinc (v := 1) (ls' := [some (.ref l1), some (.ref l2), some (.int (l3 + 1))]) cd_171_98 rfl (by decide) rfl ?_
  exact w_goto cd_171_101 (by decide) h76
theorem b_171_104 {d : Nat} {Q : (Option Value ⊕ Nat) → mi_H → Prop} (n sl : Nat) (f : Nat → mi_C) {l1 : Nat} {l2 : Nat} {l3 : Int32} (h4 : Q (.inl none) (n, sl, f)) : mi_W d 171 104 [some (.ref l1), some (.ref l2), some (.int l3)] [] (n, sl, f) Q := by
  exact w_return cd_171_104 (by decide +kernel) h4
/-! MarloweHostModel.transact(JJI)I -/
set_option maxRecDepth 100000 in
theorem mq_172 : mt_q 172 = my_172 := rfl
set_option maxRecDepth 100000 in
theorem ci_172 : mt_inc 0 my_172.cd = true := by decide +kernel
theorem cd_172_0 : mt_cd 172 0 = some (.aload_n 0) := mt_cd_of (q := (0, .aload_n 0, 1)) mq_172 ci_172 (List.mem_of_getElem? (i := 0) rfl)
theorem cd_172_1 : mt_cd 172 1 = some (.iconst 0) := mt_cd_of (q := (1, .iconst 0, 1)) mq_172 ci_172 (List.mem_of_getElem? (i := 1) rfl)
theorem cd_172_2 : mt_cd 172 2 = some (.putfield 490) := mt_cd_of (q := (2, .putfield 490, 3)) mq_172 ci_172 (List.mem_of_getElem? (i := 2) rfl)
theorem cd_172_5 : mt_cd 172 5 = some (.aload_n 0) := mt_cd_of (q := (5, .aload_n 0, 1)) mq_172 ci_172 (List.mem_of_getElem? (i := 3) rfl)
theorem cd_172_6 : mt_cd 172 6 = some (.iconst 0) := mt_cd_of (q := (6, .iconst 0, 1)) mq_172 ci_172 (List.mem_of_getElem? (i := 4) rfl)
theorem cd_172_7 : mt_cd 172 7 = some (.putfield 493) := mt_cd_of (q := (7, .putfield 493, 3)) mq_172 ci_172 (List.mem_of_getElem? (i := 5) rfl)
theorem cd_172_10 : mt_cd 172 10 = some (.aload_n 0) := mt_cd_of (q := (10, .aload_n 0, 1)) mq_172 ci_172 (List.mem_of_getElem? (i := 6) rfl)
theorem cd_172_11 : mt_cd 172 11 = some (.iconst 0) := mt_cd_of (q := (11, .iconst 0, 1)) mq_172 ci_172 (List.mem_of_getElem? (i := 7) rfl)
theorem cd_172_12 : mt_cd 172 12 = some (.putfield 506) := mt_cd_of (q := (12, .putfield 506, 3)) mq_172 ci_172 (List.mem_of_getElem? (i := 8) rfl)
theorem cd_172_15 : mt_cd 172 15 = some (.iconst 0) := mt_cd_of (q := (15, .iconst 0, 1)) mq_172 ci_172 (List.mem_of_getElem? (i := 9) rfl)
theorem cd_172_16 : mt_cd 172 16 = some (.istore 6) := mt_cd_of (q := (16, .istore 6, 2)) mq_172 ci_172 (List.mem_of_getElem? (i := 10) rfl)
theorem cd_172_18 : mt_cd 172 18 = some (.iload 6) := mt_cd_of (q := (18, .iload 6, 2)) mq_172 ci_172 (List.mem_of_getElem? (i := 11) rfl)
theorem cd_172_20 : mt_cd 172 20 = some (.bipush 32) := mt_cd_of (q := (20, .bipush 32, 2)) mq_172 ci_172 (List.mem_of_getElem? (i := 12) rfl)
theorem cd_172_22 : mt_cd 172 22 = some (.if_icmp .ge 17) := mt_cd_of (q := (22, .if_icmp .ge 17, 3)) mq_172 ci_172 (List.mem_of_getElem? (i := 13) rfl)
theorem cd_172_25 : mt_cd 172 25 = some (.aload_n 0) := mt_cd_of (q := (25, .aload_n 0, 1)) mq_172 ci_172 (List.mem_of_getElem? (i := 14) rfl)
theorem cd_172_26 : mt_cd 172 26 = some (.getfield 172) := mt_cd_of (q := (26, .getfield 172, 3)) mq_172 ci_172 (List.mem_of_getElem? (i := 15) rfl)
theorem cd_172_29 : mt_cd 172 29 = some (.iload 6) := mt_cd_of (q := (29, .iload 6, 2)) mq_172 ci_172 (List.mem_of_getElem? (i := 16) rfl)
theorem cd_172_31 : mt_cd 172 31 = some (.lconst 0) := mt_cd_of (q := (31, .lconst 0, 1)) mq_172 ci_172 (List.mem_of_getElem? (i := 17) rfl)
theorem cd_172_32 : mt_cd 172 32 = some (.lastore) := mt_cd_of (q := (32, .lastore, 1)) mq_172 ci_172 (List.mem_of_getElem? (i := 18) rfl)
theorem cd_172_33 : mt_cd 172 33 = some (.iinc 6 1) := mt_cd_of (q := (33, .iinc 6 1, 3)) mq_172 ci_172 (List.mem_of_getElem? (i := 19) rfl)
theorem cd_172_36 : mt_cd 172 36 = some (.goto (-18)) := mt_cd_of (q := (36, .goto (-18), 3)) mq_172 ci_172 (List.mem_of_getElem? (i := 20) rfl)
theorem cd_172_39 : mt_cd 172 39 = some (.lload_n 3) := mt_cd_of (q := (39, .lload_n 3, 1)) mq_172 ci_172 (List.mem_of_getElem? (i := 21) rfl)
theorem cd_172_40 : mt_cd 172 40 = some (.lload_n 1) := mt_cd_of (q := (40, .lload_n 1, 1)) mq_172 ci_172 (List.mem_of_getElem? (i := 22) rfl)
theorem cd_172_41 : mt_cd 172 41 = some (.lcmp) := mt_cd_of (q := (41, .lcmp, 1)) mq_172 ci_172 (List.mem_of_getElem? (i := 23) rfl)
theorem cd_172_42 : mt_cd 172 42 = some (.ifCond .ge 5) := mt_cd_of (q := (42, .ifCond .ge 5, 3)) mq_172 ci_172 (List.mem_of_getElem? (i := 24) rfl)
theorem cd_172_45 : mt_cd 172 45 = some (.iconst 1) := mt_cd_of (q := (45, .iconst 1, 1)) mq_172 ci_172 (List.mem_of_getElem? (i := 25) rfl)
theorem cd_172_46 : mt_cd 172 46 = some (.ireturn) := mt_cd_of (q := (46, .ireturn, 1)) mq_172 ci_172 (List.mem_of_getElem? (i := 26) rfl)
theorem cd_172_47 : mt_cd 172 47 = some (.lload_n 3) := mt_cd_of (q := (47, .lload_n 3, 1)) mq_172 ci_172 (List.mem_of_getElem? (i := 27) rfl)
theorem cd_172_48 : mt_cd 172 48 = some (.aload_n 0) := mt_cd_of (q := (48, .aload_n 0, 1)) mq_172 ci_172 (List.mem_of_getElem? (i := 28) rfl)
theorem cd_172_49 : mt_cd 172 49 = some (.getfield 445) := mt_cd_of (q := (49, .getfield 445, 3)) mq_172 ci_172 (List.mem_of_getElem? (i := 29) rfl)
theorem cd_172_52 : mt_cd 172 52 = some (.getfield 516) := mt_cd_of (q := (52, .getfield 516, 3)) mq_172 ci_172 (List.mem_of_getElem? (i := 30) rfl)
theorem cd_172_55 : mt_cd 172 55 = some (.lcmp) := mt_cd_of (q := (55, .lcmp, 1)) mq_172 ci_172 (List.mem_of_getElem? (i := 31) rfl)
theorem cd_172_56 : mt_cd 172 56 = some (.ifCond .ge 5) := mt_cd_of (q := (56, .ifCond .ge 5, 3)) mq_172 ci_172 (List.mem_of_getElem? (i := 32) rfl)
theorem cd_172_59 : mt_cd 172 59 = some (.iconst 2) := mt_cd_of (q := (59, .iconst 2, 1)) mq_172 ci_172 (List.mem_of_getElem? (i := 33) rfl)
theorem cd_172_60 : mt_cd 172 60 = some (.ireturn) := mt_cd_of (q := (60, .ireturn, 1)) mq_172 ci_172 (List.mem_of_getElem? (i := 34) rfl)
theorem cd_172_61 : mt_cd 172 61 = some (.aload_n 0) := mt_cd_of (q := (61, .aload_n 0, 1)) mq_172 ci_172 (List.mem_of_getElem? (i := 35) rfl)
theorem cd_172_62 : mt_cd 172 62 = some (.lload_n 1) := mt_cd_of (q := (62, .lload_n 1, 1)) mq_172 ci_172 (List.mem_of_getElem? (i := 36) rfl)
theorem cd_172_63 : mt_cd 172 63 = some (.aload_n 0) := mt_cd_of (q := (63, .aload_n 0, 1)) mq_172 ci_172 (List.mem_of_getElem? (i := 37) rfl)
theorem cd_172_64 : mt_cd 172 64 = some (.getfield 445) := mt_cd_of (q := (64, .getfield 445, 3)) mq_172 ci_172 (List.mem_of_getElem? (i := 38) rfl)
theorem cd_172_67 : mt_cd 172 67 = some (.getfield 516) := mt_cd_of (q := (67, .getfield 516, 3)) mq_172 ci_172 (List.mem_of_getElem? (i := 39) rfl)
theorem cd_172_70 : mt_cd 172 70 = some (.lcmp) := mt_cd_of (q := (70, .lcmp, 1)) mq_172 ci_172 (List.mem_of_getElem? (i := 40) rfl)
theorem cd_172_71 : mt_cd 172 71 = some (.ifCond .ge 13) := mt_cd_of (q := (71, .ifCond .ge 13, 3)) mq_172 ci_172 (List.mem_of_getElem? (i := 41) rfl)
theorem cd_172_74 : mt_cd 172 74 = some (.aload_n 0) := mt_cd_of (q := (74, .aload_n 0, 1)) mq_172 ci_172 (List.mem_of_getElem? (i := 42) rfl)
theorem cd_172_75 : mt_cd 172 75 = some (.getfield 445) := mt_cd_of (q := (75, .getfield 445, 3)) mq_172 ci_172 (List.mem_of_getElem? (i := 43) rfl)
theorem cd_172_78 : mt_cd 172 78 = some (.getfield 516) := mt_cd_of (q := (78, .getfield 516, 3)) mq_172 ci_172 (List.mem_of_getElem? (i := 44) rfl)
theorem cd_172_81 : mt_cd 172 81 = some (.goto 4) := mt_cd_of (q := (81, .goto 4, 3)) mq_172 ci_172 (List.mem_of_getElem? (i := 45) rfl)
theorem cd_172_84 : mt_cd 172 84 = some (.lload_n 1) := mt_cd_of (q := (84, .lload_n 1, 1)) mq_172 ci_172 (List.mem_of_getElem? (i := 46) rfl)
theorem cd_172_85 : mt_cd 172 85 = some (.putfield 471) := mt_cd_of (q := (85, .putfield 471, 3)) mq_172 ci_172 (List.mem_of_getElem? (i := 47) rfl)
theorem cd_172_88 : mt_cd 172 88 = some (.aload_n 0) := mt_cd_of (q := (88, .aload_n 0, 1)) mq_172 ci_172 (List.mem_of_getElem? (i := 48) rfl)
theorem cd_172_89 : mt_cd 172 89 = some (.lload_n 3) := mt_cd_of (q := (89, .lload_n 3, 1)) mq_172 ci_172 (List.mem_of_getElem? (i := 49) rfl)
theorem cd_172_90 : mt_cd 172 90 = some (.putfield 474) := mt_cd_of (q := (90, .putfield 474, 3)) mq_172 ci_172 (List.mem_of_getElem? (i := 50) rfl)
theorem cd_172_93 : mt_cd 172 93 = some (.aload_n 0) := mt_cd_of (q := (93, .aload_n 0, 1)) mq_172 ci_172 (List.mem_of_getElem? (i := 51) rfl)
theorem cd_172_94 : mt_cd 172 94 = some (.getfield 445) := mt_cd_of (q := (94, .getfield 445, 3)) mq_172 ci_172 (List.mem_of_getElem? (i := 52) rfl)
theorem cd_172_97 : mt_cd 172 97 = some (.aload_n 0) := mt_cd_of (q := (97, .aload_n 0, 1)) mq_172 ci_172 (List.mem_of_getElem? (i := 53) rfl)
theorem cd_172_98 : mt_cd 172 98 = some (.getfield 471) := mt_cd_of (q := (98, .getfield 471, 3)) mq_172 ci_172 (List.mem_of_getElem? (i := 54) rfl)
theorem cd_172_101 : mt_cd 172 101 = some (.putfield 516) := mt_cd_of (q := (101, .putfield 516, 3)) mq_172 ci_172 (List.mem_of_getElem? (i := 55) rfl)
theorem cd_172_104 : mt_cd 172 104 = some (.aload_n 0) := mt_cd_of (q := (104, .aload_n 0, 1)) mq_172 ci_172 (List.mem_of_getElem? (i := 56) rfl)
theorem cd_172_105 : mt_cd 172 105 = some (.invokevirtual 519) := mt_cd_of (q := (105, .invokevirtual 519, 3)) mq_172 ci_172 (List.mem_of_getElem? (i := 57) rfl)
theorem cd_172_108 : mt_cd 172 108 = some (.istore 6) := mt_cd_of (q := (108, .istore 6, 2)) mq_172 ci_172 (List.mem_of_getElem? (i := 58) rfl)
theorem cd_172_110 : mt_cd 172 110 = some (.iconst 0) := mt_cd_of (q := (110, .iconst 0, 1)) mq_172 ci_172 (List.mem_of_getElem? (i := 59) rfl)
theorem cd_172_111 : mt_cd 172 111 = some (.istore 7) := mt_cd_of (q := (111, .istore 7, 2)) mq_172 ci_172 (List.mem_of_getElem? (i := 60) rfl)
theorem cd_172_113 : mt_cd 172 113 = some (.iload 7) := mt_cd_of (q := (113, .iload 7, 2)) mq_172 ci_172 (List.mem_of_getElem? (i := 61) rfl)
theorem cd_172_115 : mt_cd 172 115 = some (.iload 5) := mt_cd_of (q := (115, .iload 5, 2)) mq_172 ci_172 (List.mem_of_getElem? (i := 62) rfl)
theorem cd_172_117 : mt_cd 172 117 = some (.if_icmp .ge 33) := mt_cd_of (q := (117, .if_icmp .ge 33, 3)) mq_172 ci_172 (List.mem_of_getElem? (i := 63) rfl)
theorem cd_172_120 : mt_cd 172 120 = some (.iload 6) := mt_cd_of (q := (120, .iload 6, 2)) mq_172 ci_172 (List.mem_of_getElem? (i := 64) rfl)
theorem cd_172_122 : mt_cd 172 122 = some (.ifCond .ne 28) := mt_cd_of (q := (122, .ifCond .ne 28, 3)) mq_172 ci_172 (List.mem_of_getElem? (i := 65) rfl)
theorem cd_172_125 : mt_cd 172 125 = some (.aload_n 0) := mt_cd_of (q := (125, .aload_n 0, 1)) mq_172 ci_172 (List.mem_of_getElem? (i := 66) rfl)
theorem cd_172_126 : mt_cd 172 126 = some (.iload 7) := mt_cd_of (q := (126, .iload 7, 2)) mq_172 ci_172 (List.mem_of_getElem? (i := 67) rfl)
theorem cd_172_128 : mt_cd 172 128 = some (.invokevirtual 522) := mt_cd_of (q := (128, .invokevirtual 522, 3)) mq_172 ci_172 (List.mem_of_getElem? (i := 68) rfl)
theorem cd_172_131 : mt_cd 172 131 = some (.istore 6) := mt_cd_of (q := (131, .istore 6, 2)) mq_172 ci_172 (List.mem_of_getElem? (i := 69) rfl)
theorem cd_172_133 : mt_cd 172 133 = some (.iload 6) := mt_cd_of (q := (133, .iload 6, 2)) mq_172 ci_172 (List.mem_of_getElem? (i := 70) rfl)
theorem cd_172_135 : mt_cd 172 135 = some (.ifCond .ne 9) := mt_cd_of (q := (135, .ifCond .ne 9, 3)) mq_172 ci_172 (List.mem_of_getElem? (i := 71) rfl)
theorem cd_172_138 : mt_cd 172 138 = some (.aload_n 0) := mt_cd_of (q := (138, .aload_n 0, 1)) mq_172 ci_172 (List.mem_of_getElem? (i := 72) rfl)
theorem cd_172_139 : mt_cd 172 139 = some (.invokevirtual 519) := mt_cd_of (q := (139, .invokevirtual 519, 3)) mq_172 ci_172 (List.mem_of_getElem? (i := 73) rfl)
theorem cd_172_142 : mt_cd 172 142 = some (.istore 6) := mt_cd_of (q := (142, .istore 6, 2)) mq_172 ci_172 (List.mem_of_getElem? (i := 74) rfl)
theorem cd_172_144 : mt_cd 172 144 = some (.iinc 7 1) := mt_cd_of (q := (144, .iinc 7 1, 3)) mq_172 ci_172 (List.mem_of_getElem? (i := 75) rfl)
theorem cd_172_147 : mt_cd 172 147 = some (.goto (-34)) := mt_cd_of (q := (147, .goto (-34), 3)) mq_172 ci_172 (List.mem_of_getElem? (i := 76) rfl)
theorem cd_172_150 : mt_cd 172 150 = some (.iload 6) := mt_cd_of (q := (150, .iload 6, 2)) mq_172 ci_172 (List.mem_of_getElem? (i := 77) rfl)
theorem cd_172_152 : mt_cd 172 152 = some (.ifCond .eq 8) := mt_cd_of (q := (152, .ifCond .eq 8, 3)) mq_172 ci_172 (List.mem_of_getElem? (i := 78) rfl)
theorem cd_172_155 : mt_cd 172 155 = some (.iload 6) := mt_cd_of (q := (155, .iload 6, 2)) mq_172 ci_172 (List.mem_of_getElem? (i := 79) rfl)
theorem cd_172_157 : mt_cd 172 157 = some (.goto 20) := mt_cd_of (q := (157, .goto 20, 3)) mq_172 ci_172 (List.mem_of_getElem? (i := 80) rfl)
theorem cd_172_160 : mt_cd 172 160 = some (.iload 5) := mt_cd_of (q := (160, .iload 5, 2)) mq_172 ci_172 (List.mem_of_getElem? (i := 81) rfl)
theorem cd_172_162 : mt_cd 172 162 = some (.ifCond .ne 14) := mt_cd_of (q := (162, .ifCond .ne 14, 3)) mq_172 ci_172 (List.mem_of_getElem? (i := 82) rfl)
theorem cd_172_165 : mt_cd 172 165 = some (.aload_n 0) := mt_cd_of (q := (165, .aload_n 0, 1)) mq_172 ci_172 (List.mem_of_getElem? (i := 83) rfl)
theorem cd_172_166 : mt_cd 172 166 = some (.getfield 506) := mt_cd_of (q := (166, .getfield 506, 3)) mq_172 ci_172 (List.mem_of_getElem? (i := 84) rfl)
theorem cd_172_169 : mt_cd 172 169 = some (.ifCond .ne 7) := mt_cd_of (q := (169, .ifCond .ne 7, 3)) mq_172 ci_172 (List.mem_of_getElem? (i := 85) rfl)
theorem cd_172_172 : mt_cd 172 172 = some (.iconst 5) := mt_cd_of (q := (172, .iconst 5, 1)) mq_172 ci_172 (List.mem_of_getElem? (i := 86) rfl)
theorem cd_172_173 : mt_cd 172 173 = some (.goto 4) := mt_cd_of (q := (173, .goto 4, 3)) mq_172 ci_172 (List.mem_of_getElem? (i := 87) rfl)
theorem cd_172_176 : mt_cd 172 176 = some (.iconst 0) := mt_cd_of (q := (176, .iconst 0, 1)) mq_172 ci_172 (List.mem_of_getElem? (i := 88) rfl)
theorem cd_172_177 : mt_cd 172 177 = some (.ireturn) := mt_cd_of (q := (177, .ireturn, 1)) mq_172 ci_172 (List.mem_of_getElem? (i := 89) rfl)
theorem b_172_0 {d : Nat} {Q : (Option Value ⊕ Nat) → mi_H → Prop} (n sl : Nat) (f : Nat → mi_C) {l1 : Nat} {l2 : Int64} {l3 : Int64} {l4 : Int32} {o5 : Option Value} {o6 : Option Value} {fs7 : List Value} {fs11 : List Value} {fs15 : List Value} (h8 : f l1 = .inr (12, fs7)) (h9 : l1 < n) (h10 : 47 < fs7.length) (h12 : (va_up f l1 (.inr (12, fs7.set 47 (.int 0)))) l1 = .inr (12, fs11)) (h13 : l1 < n) (h14 : 48 < fs11.length) (h16 : (va_up (va_up f l1 (.inr (12, fs7.set 47 (.int 0)))) l1 (.inr (12, fs11.set 48 (.int 0)))) l1 = .inr (12, fs15)) (h17 : l1 < n) (h18 : 58 < fs15.length) (h19 : mi_fk .boolean (.int 0) = true) (h20 : mi_W d 172 18 [some (.ref l1), some (.long l2), none, some (.long l3), none, some (.int l4), some (.int 0), o6] [] (n, sl, (va_up (va_up (va_up f l1 (.inr (12, fs7.set 47 (.int 0)))) l1 (.inr (12, fs11.set 48 (.int 0)))) l1 (.inr (12, fs15.set 58 (.int 0))))) Q) : mi_W d 172 0 [some (.ref l1), some (.long l2), none, some (.long l3), none, some (.int l4), o5, o6] [] (n, sl, f) Q := by
  refine w_aload_n cd_172_0 rfl ?_
  refine w_iconst (v := 0) cd_172_1 (by decide) ?_
  refine w_putfield (w := .int 0) cd_172_2 (show mt_f 12 490 = some (12, 47) by decide +kernel) h8 h9 ⟨h10, rfl, Or.inl (by decide)⟩ ?_
  refine w_aload_n cd_172_5 rfl ?_
  refine w_iconst (v := 0) cd_172_6 (by decide) ?_
  refine w_putfield (w := .int 0) cd_172_7 (show mt_f 12 493 = some (12, 48) by decide +kernel) h12 h13 ⟨h14, rfl, Or.inl (by decide)⟩ ?_
  refine w_aload_n cd_172_10 rfl ?_
  refine w_iconst (v := 0) cd_172_11 (by decide) ?_
  refine w_putfield (w := .int 0) cd_172_12 (show mt_f 12 506 = some (12, 58) by decide +kernel) h16 h17 ⟨h18, h19, Or.inl (by decide)⟩ ?_
  refine w_iconst (v := 0) cd_172_15 (by decide) ?_
  refine w_istore (ls' := [some (.ref l1), some (.long l2), none, some (.long l3), none, some (.int l4), some (.int 0), o6]) cd_172_16 (Nat.le_of_ble_eq_true rfl) rfl ?_
  exact h20
theorem b_172_18 {d : Nat} {Q : (Option Value ⊕ Nat) → mi_H → Prop} (n sl : Nat) (f : Nat → mi_C) {l1 : Nat} {l2 : Int64} {l3 : Int64} {l4 : Int32} {l5 : Int32} {o6 : Option Value} (h7 : 32 ≤ l5 → mi_W d 172 39 [some (.ref l1), some (.long l2), none, some (.long l3), none, some (.int l4), some (.int l5), o6] [] (n, sl, f) Q) (h8 : ¬ (32 ≤ l5) → mi_W d 172 25 [some (.ref l1), some (.long l2), none, some (.long l3), none, some (.int l4), some (.int l5), o6] [] (n, sl, f) Q) : mi_W d 172 18 [some (.ref l1), some (.long l2), none, some (.long l3), none, some (.int l4), some (.int l5), o6] [] (n, sl, f) Q := by
  refine w_iload cd_172_18 rfl ?_
  refine w_bipush (v := 32) cd_172_20 (by decide) ?_
  exact w_if_icmpge cd_172_22 (by decide) h7 h8
theorem b_172_25 {d : Nat} {Q : (Option Value ⊕ Nat) → mi_H → Prop} (n sl : Nat) (f : Nat → mi_C) {l1 : Nat} {l2 : Int64} {l3 : Int64} {l4 : Int32} {l5 : Int32} {o6 : Option Value} {fs7 : List Value} {x10 : Nat} (m12 i12 : Nat) (g12 : Nat → Int64) (h8 : f l1 = .inr (12, fs7)) (h9 : l1 < n) (h11 : fs7[55]? = some (.ref x10)) (h13 : f x10 = .inl (3, m12, .inr (.inl g12))) (h14 : x10 < n) (h15 : mi_ix l5 m12 i12) (h16 : mi_W d 172 18 [some (.ref l1), some (.long l2), none, some (.long l3), none, some (.int l4), some (.int (l5 + 1)), o6] [] (n, sl, (va_up f x10 (.inl (3, m12, .inr (.inl (vp_updL g12 i12 0)))))) Q) : mi_W d 172 25 [some (.ref l1), some (.long l2), none, some (.long l3), none, some (.int l4), some (.int l5), o6] [] (n, sl, f) Q := by
  refine w_aload_n cd_172_25 rfl ?_
  refine w_getfield cd_172_26 (show mt_f 12 172 = some (12, 55) by decide +kernel) h8 h9 h11 ?_
  refine w_iload cd_172_29 rfl ?_
  refine w_lconst (lv := 0) cd_172_31 (by decide) ?_
  refine w_lastore cd_172_32 h13 h14 h15 ?_
  refine w_iinc (v := 1) (ls' := [some (.ref l1), some (.long l2), none, some (.long l3), none, some (.int l4), some (.int (l5 + 1)), o6]) cd_172_33 rfl (by decide) rfl ?_
  exact w_goto cd_172_36 (by decide) h16
theorem b_172_39 {d : Nat} {Q : (Option Value ⊕ Nat) → mi_H → Prop} (n sl : Nat) (f : Nat → mi_C) {l1 : Nat} {l2 : Int64} {l3 : Int64} {l4 : Int32} {l5 : Int32} {o6 : Option Value} (h7 : (0 : Int32) ≤ (lg_cmp l3 l2) → mi_W d 172 47 [some (.ref l1), some (.long l2), none, some (.long l3), none, some (.int l4), some (.int l5), o6] [] (n, sl, f) Q) (h8 : ¬ ((0 : Int32) ≤ (lg_cmp l3 l2)) → mi_W d 172 45 [some (.ref l1), some (.long l2), none, some (.long l3), none, some (.int l4), some (.int l5), o6] [] (n, sl, f) Q) : mi_W d 172 39 [some (.ref l1), some (.long l2), none, some (.long l3), none, some (.int l4), some (.int l5), o6] [] (n, sl, f) Q := by
  refine w_lload_n cd_172_39 rfl ?_
  refine w_lload_n cd_172_40 rfl ?_
  refine w_lcmp cd_172_41 ?_
  exact w_ifge cd_172_42 (by decide) h7 h8
theorem b_172_45 {d : Nat} {Q : (Option Value ⊕ Nat) → mi_H → Prop} (n sl : Nat) (f : Nat → mi_C) {l1 : Nat} {l2 : Int64} {l3 : Int64} {l4 : Int32} {l5 : Int32} {o6 : Option Value} (h7 : Q (.inl (some (.int 1))) (n, sl, f)) : mi_W d 172 45 [some (.ref l1), some (.long l2), none, some (.long l3), none, some (.int l4), some (.int l5), o6] [] (n, sl, f) Q := by
  refine w_iconst (v := 1) cd_172_45 (by decide) ?_
  exact w_ireturn_i cd_172_46 (by decide +kernel) h7
theorem b_172_47 {d : Nat} {Q : (Option Value ⊕ Nat) → mi_H → Prop} (n sl : Nat) (f : Nat → mi_C) {l1 : Nat} {l2 : Int64} {l3 : Int64} {l4 : Int32} {l5 : Int32} {o6 : Option Value} {fs7 : List Value} {x10 : Nat} {fs12 : List Value} {x15 : Int64} (h8 : f l1 = .inr (12, fs7)) (h9 : l1 < n) (h11 : fs7[43]? = some (.ref x10)) (h13 : f x10 = .inr (13, fs12)) (h14 : x10 < n) (h16 : fs12[1]? = some (.long x15)) (h17 : (0 : Int32) ≤ (lg_cmp l3 x15) → mi_W d 172 61 [some (.ref l1), some (.long l2), none, some (.long l3), none, some (.int l4), some (.int l5), o6] [] (n, sl, f) Q) (h18 : ¬ ((0 : Int32) ≤ (lg_cmp l3 x15)) → mi_W d 172 59 [some (.ref l1), some (.long l2), none, some (.long l3), none, some (.int l4), some (.int l5), o6] [] (n, sl, f) Q) : mi_W d 172 47 [some (.ref l1), some (.long l2), none, some (.long l3), none, some (.int l4), some (.int l5), o6] [] (n, sl, f) Q := by
  refine w_lload_n cd_172_47 rfl ?_
  refine w_aload_n cd_172_48 rfl ?_
  refine w_getfield cd_172_49 (show mt_f 12 445 = some (12, 43) by decide +kernel) h8 h9 h11 ?_
  refine w_getfield cd_172_52 (show mt_f 12 516 = some (13, 1) by decide +kernel) h13 h14 h16 ?_
  refine w_lcmp cd_172_55 ?_
  exact w_ifge cd_172_56 (by decide) h17 h18
theorem b_172_59 {d : Nat} {Q : (Option Value ⊕ Nat) → mi_H → Prop} (n sl : Nat) (f : Nat → mi_C) {l1 : Nat} {l2 : Int64} {l3 : Int64} {l4 : Int32} {l5 : Int32} {o6 : Option Value} (h7 : Q (.inl (some (.int 2))) (n, sl, f)) : mi_W d 172 59 [some (.ref l1), some (.long l2), none, some (.long l3), none, some (.int l4), some (.int l5), o6] [] (n, sl, f) Q := by
  refine w_iconst (v := 2) cd_172_59 (by decide) ?_
  exact w_ireturn_i cd_172_60 (by decide +kernel) h7
theorem b_172_61 {d : Nat} {Q : (Option Value ⊕ Nat) → mi_H → Prop} (n sl : Nat) (f : Nat → mi_C) {l1 : Nat} {l2 : Int64} {l3 : Int64} {l4 : Int32} {l5 : Int32} {o6 : Option Value} {fs7 : List Value} {x10 : Nat} {fs12 : List Value} {x15 : Int64} (h8 : f l1 = .inr (12, fs7)) (h9 : l1 < n) (h11 : fs7[43]? = some (.ref x10)) (h13 : f x10 = .inr (13, fs12)) (h14 : x10 < n) (h16 : fs12[1]? = some (.long x15)) (h17 : (0 : Int32) ≤ (lg_cmp l2 x15) → mi_W d 172 84 [some (.ref l1), some (.long l2), none, some (.long l3), none, some (.int l4), some (.int l5), o6] [.ref l1] (n, sl, f) Q) (h18 : ¬ ((0 : Int32) ≤ (lg_cmp l2 x15)) → mi_W d 172 74 [some (.ref l1), some (.long l2), none, some (.long l3), none, some (.int l4), some (.int l5), o6] [.ref l1] (n, sl, f) Q) : mi_W d 172 61 [some (.ref l1), some (.long l2), none, some (.long l3), none, some (.int l4), some (.int l5), o6] [] (n, sl, f) Q := by
  refine w_aload_n cd_172_61 rfl ?_
  refine w_lload_n cd_172_62 rfl ?_
  refine w_aload_n cd_172_63 rfl ?_
  refine w_getfield cd_172_64 (show mt_f 12 445 = some (12, 43) by decide +kernel) h8 h9 h11 ?_
  refine w_getfield cd_172_67 (show mt_f 12 516 = some (13, 1) by decide +kernel) h13 h14 h16 ?_
  refine w_lcmp cd_172_70 ?_
  exact w_ifge cd_172_71 (by decide) h17 h18
theorem b_172_74 {d : Nat} {Q : (Option Value ⊕ Nat) → mi_H → Prop} (n sl : Nat) (f : Nat → mi_C) {l1 : Nat} {l2 : Int64} {l3 : Int64} {l4 : Int32} {l5 : Int32} {o6 : Option Value} {s7 : Nat} {fs8 : List Value} {x11 : Nat} {fs13 : List Value} {x16 : Int64} (h9 : f l1 = .inr (12, fs8)) (h10 : l1 < n) (h12 : fs8[43]? = some (.ref x11)) (h14 : f x11 = .inr (13, fs13)) (h15 : x11 < n) (h17 : fs13[1]? = some (.long x16)) (h18 : mi_W d 172 85 [some (.ref l1), some (.long l2), none, some (.long l3), none, some (.int l4), some (.int l5), o6] [.long x16, .ref s7] (n, sl, f) Q) : mi_W d 172 74 [some (.ref l1), some (.long l2), none, some (.long l3), none, some (.int l4), some (.int l5), o6] [.ref s7] (n, sl, f) Q := by
  refine w_aload_n cd_172_74 rfl ?_
  refine w_getfield cd_172_75 (show mt_f 12 445 = some (12, 43) by decide +kernel) h9 h10 h12 ?_
  refine w_getfield cd_172_78 (show mt_f 12 516 = some (13, 1) by decide +kernel) h14 h15 h17 ?_
  exact w_goto cd_172_81 (by decide) h18
theorem b_172_84 {d : Nat} {Q : (Option Value ⊕ Nat) → mi_H → Prop} (n sl : Nat) (f : Nat → mi_C) {l1 : Nat} {l2 : Int64} {l3 : Int64} {l4 : Int32} {l5 : Int32} {o6 : Option Value} {s7 : Nat} (h8 : mi_W d 172 85 [some (.ref l1), some (.long l2), none, some (.long l3), none, some (.int l4), some (.int l5), o6] [.long l2, .ref s7] (n, sl, f) Q) : mi_W d 172 84 [some (.ref l1), some (.long l2), none, some (.long l3), none, some (.int l4), some (.int l5), o6] [.ref s7] (n, sl, f) Q := by
  refine w_lload_n cd_172_84 rfl ?_
  exact h8
theorem b_172_85 {d : Nat} {Q : (Option Value ⊕ Nat) → mi_H → Prop} (n sl : Nat) (f : Nat → mi_C) {l1 : Nat} {l2 : Int64} {l3 : Int64} {l4 : Int32} {l5 : Int32} {o6 : Option Value} {s7 : Int64} {s8 : Nat} {fs9 : List Value} {fs13 : List Value} {fs17 : List Value} {x20 : Nat} {fs22 : List Value} {x25 : Int64} {fs27 : List Value} {fs31 : List Value} (h10 : f s8 = .inr (12, fs9)) (h11 : s8 < n) (h12 : 44 < fs9.length) (h14 : (va_up f s8 (.inr (12, fs9.set 44 (.long s7)))) l1 = .inr (12, fs13)) (h15 : l1 < n) (h16 : 45 < fs13.length) (h18 : (va_up (va_up f s8 (.inr (12, fs9.set 44 (.long s7)))) l1 (.inr (12, fs13.set 45 (.long l3)))) l1 = .inr (12, fs17)) (h19 : l1 < n) (h21 : fs17[43]? = some (.ref x20)) (h23 : (va_up (va_up f s8 (.inr (12, fs9.set 44 (.long s7)))) l1 (.inr (12, fs13.set 45 (.long l3)))) l1 = .inr (12, fs22)) (h24 : l1 < n) (h26 : fs22[44]? = some (.long x25)) (h28 : (va_up (va_up f s8 (.inr (12, fs9.set 44 (.long s7)))) l1 (.inr (12, fs13.set 45 (.long l3)))) x20 = .inr (13, fs27)) (h29 : x20 < n) (h30 : 1 < fs27.length) (h32 : (va_up (va_up (va_up f s8 (.inr (12, fs9.set 44 (.long s7)))) l1 (.inr (12, fs13.set 45 (.long l3)))) x20 (.inr (13, fs27.set 1 (.long x25)))) l1 = .inr (12, fs31)) (h33 : l1 < n) (h34 : mi_W d 173 0 (mi_en 8 [.ref l1]) [] (n, sl, (va_up (va_up (va_up f s8 (.inr (12, fs9.set 44 (.long s7)))) l1 (.inr (12, fs13.set 45 (.long l3)))) x20 (.inr (13, fs27.set 1 (.long x25))))) (mi_Kc d 172 105 [some (.ref l1), some (.long l2), none, some (.long l3), none, some (.int l4), some (.int l5), o6] [] Q)) : mi_W (d + 1) 172 85 [some (.ref l1), some (.long l2), none, some (.long l3), none, some (.int l4), some (.int l5), o6] [.long s7, .ref s8] (n, sl, f) Q := by
  refine w_putfield (w := .long s7) cd_172_85 (show mt_f 12 471 = some (12, 44) by decide +kernel) h10 h11 ⟨h12, rfl, Or.inl (by decide)⟩ ?_
  refine w_aload_n cd_172_88 rfl ?_
  refine w_lload_n cd_172_89 rfl ?_
  refine w_putfield (w := .long l3) cd_172_90 (show mt_f 12 474 = some (12, 45) by decide +kernel) h14 h15 ⟨h16, rfl, Or.inl (by decide)⟩ ?_
  refine w_aload_n cd_172_93 rfl ?_
  refine w_getfield cd_172_94 (show mt_f 12 445 = some (12, 43) by decide +kernel) h18 h19 h21 ?_
  refine w_aload_n cd_172_97 rfl ?_
  refine w_getfield cd_172_98 (show mt_f 12 471 = some (12, 44) by decide +kernel) h23 h24 h26 ?_
  refine w_putfield (w := .long x25) cd_172_101 (show mt_f 12 516 = some (13, 1) by decide +kernel) h28 h29 ⟨h30, rfl, Or.inl (by decide)⟩ ?_
  refine w_aload_n cd_172_104 rfl ?_
  exact w_invokevirtual cd_172_105 (show mt_m 12 519 = some (173, 0) by decide +kernel) (rest := []) rfl (as := [.ref l1]) rfl h32 (Or.inl h33) ⟨Nat.le_of_ble_eq_true rfl, Nat.le_of_ble_eq_true rfl, Nat.le_of_ble_eq_true rfl⟩ h34
theorem b_172_108 {d : Nat} {Q : (Option Value ⊕ Nat) → mi_H → Prop} (n sl : Nat) (f : Nat → mi_C) {l1 : Nat} {l2 : Int64} {l3 : Int64} {l4 : Int32} {l5 : Int32} {o6 : Option Value} {s7 : Int32} (h8 : mi_W d 172 113 [some (.ref l1), some (.long l2), none, some (.long l3), none, some (.int l4), some (.int s7), some (.int 0)] [] (n, sl, f) Q) : mi_W d 172 108 [some (.ref l1), some (.long l2), none, some (.long l3), none, some (.int l4), some (.int l5), o6] [.int s7] (n, sl, f) Q := by
  refine w_istore (ls' := [some (.ref l1), some (.long l2), none, some (.long l3), none, some (.int l4), some (.int s7), o6]) cd_172_108 (Nat.le_of_ble_eq_true rfl) rfl ?_
  refine w_iconst (v := 0) cd_172_110 (by decide) ?_
  refine w_istore (ls' := [some (.ref l1), some (.long l2), none, some (.long l3), none, some (.int l4), some (.int s7), some (.int 0)]) cd_172_111 (Nat.le_of_ble_eq_true rfl) rfl ?_
  exact h8
theorem b_172_113 {d : Nat} {Q : (Option Value ⊕ Nat) → mi_H → Prop} (n sl : Nat) (f : Nat → mi_C) {l1 : Nat} {l2 : Int64} {l3 : Int64} {l4 : Int32} {l5 : Int32} {l6 : Int32} (h7 : l4 ≤ l6 → mi_W d 172 150 [some (.ref l1), some (.long l2), none, some (.long l3), none, some (.int l4), some (.int l5), some (.int l6)] [] (n, sl, f) Q) (h8 : ¬ (l4 ≤ l6) → mi_W d 172 120 [some (.ref l1), some (.long l2), none, some (.long l3), none, some (.int l4), some (.int l5), some (.int l6)] [] (n, sl, f) Q) : mi_W d 172 113 [some (.ref l1), some (.long l2), none, some (.long l3), none, some (.int l4), some (.int l5), some (.int l6)] [] (n, sl, f) Q := by
  refine w_iload cd_172_113 rfl ?_
  refine w_iload cd_172_115 rfl ?_
  exact w_if_icmpge cd_172_117 (by decide) h7 h8
theorem b_172_120 {d : Nat} {Q : (Option Value ⊕ Nat) → mi_H → Prop} (n sl : Nat) (f : Nat → mi_C) {l1 : Nat} {l2 : Int64} {l3 : Int64} {l4 : Int32} {l5 : Int32} {l6 : Int32} (h7 : ¬ l5 = (0 : Int32) → mi_W d 172 150 [some (.ref l1), some (.long l2), none, some (.long l3), none, some (.int l4), some (.int l5), some (.int l6)] [] (n, sl, f) Q) (h8 : ¬ (¬ l5 = (0 : Int32)) → mi_W d 172 125 [some (.ref l1), some (.long l2), none, some (.long l3), none, some (.int l4), some (.int l5), some (.int l6)] [] (n, sl, f) Q) : mi_W d 172 120 [some (.ref l1), some (.long l2), none, some (.long l3), none, some (.int l4), some (.int l5), some (.int l6)] [] (n, sl, f) Q := by
  refine w_iload cd_172_120 rfl ?_
  exact w_ifne cd_172_122 (by decide) h7 h8
theorem b_172_125 {d : Nat} {Q : (Option Value ⊕ Nat) → mi_H → Prop} (n sl : Nat) (f : Nat → mi_C) {l1 : Nat} {l2 : Int64} {l3 : Int64} {l4 : Int32} {l5 : Int32} {l6 : Int32} {fs7 : List Value} (h8 : f l1 = .inr (12, fs7)) (h9 : l1 < n) (h10 : mi_W d 181 0 (mi_en 9 [.ref l1, .int l6]) [] (n, sl, f) (mi_Kc d 172 128 [some (.ref l1), some (.long l2), none, some (.long l3), none, some (.int l4), some (.int l5), some (.int l6)] [] Q)) : mi_W (d + 1) 172 125 [some (.ref l1), some (.long l2), none, some (.long l3), none, some (.int l4), some (.int l5), some (.int l6)] [] (n, sl, f) Q := by
  refine w_aload_n cd_172_125 rfl ?_
  refine w_iload cd_172_126 rfl ?_
  exact w_invokevirtual cd_172_128 (show mt_m 12 522 = some (181, 0) by decide +kernel) (rest := []) rfl (as := [.ref l1, .int l6]) rfl h8 (Or.inl h9) ⟨Nat.le_of_ble_eq_true rfl, Nat.le_of_ble_eq_true rfl, Nat.le_of_ble_eq_true rfl⟩ h10
theorem b_172_131 {d : Nat} {Q : (Option Value ⊕ Nat) → mi_H → Prop} (n sl : Nat) (f : Nat → mi_C) {l1 : Nat} {l2 : Int64} {l3 : Int64} {l4 : Int32} {l5 : Int32} {l6 : Int32} {s7 : Int32} (h8 : ¬ s7 = (0 : Int32) → mi_W d 172 144 [some (.ref l1), some (.long l2), none, some (.long l3), none, some (.int l4), some (.int s7), some (.int l6)] [] (n, sl, f) Q) (h9 : ¬ (¬ s7 = (0 : Int32)) → mi_W d 172 138 [some (.ref l1), some (.long l2), none, some (.long l3), none, some (.int l4), some (.int s7), some (.int l6)] [] (n, sl, f) Q) : mi_W d 172 131 [some (.ref l1), some (.long l2), none, some (.long l3), none, some (.int l4), some (.int l5), some (.int l6)] [.int s7] (n, sl, f) Q := by
  refine w_istore (ls' := [some (.ref l1), some (.long l2), none, some (.long l3), none, some (.int l4), some (.int s7), some (.int l6)]) cd_172_131 (Nat.le_of_ble_eq_true rfl) rfl ?_
  refine w_iload cd_172_133 rfl ?_
  exact w_ifne cd_172_135 (by decide) h8 h9
theorem b_172_138 {d : Nat} {Q : (Option Value ⊕ Nat) → mi_H → Prop} (n sl : Nat) (f : Nat → mi_C) {l1 : Nat} {l2 : Int64} {l3 : Int64} {l4 : Int32} {l5 : Int32} {l6 : Int32} {fs7 : List Value} (h8 : f l1 = .inr (12, fs7)) (h9 : l1 < n) (h10 : mi_W d 173 0 (mi_en 8 [.ref l1]) [] (n, sl, f) (mi_Kc d 172 139 [some (.ref l1), some (.long l2), none, some (.long l3), none, some (.int l4), some (.int l5), some (.int l6)] [] Q)) : mi_W (d + 1) 172 138 [some (.ref l1), some (.long l2), none, some (.long l3), none, some (.int l4), some (.int l5), some (.int l6)] [] (n, sl, f) Q := by
  refine w_aload_n cd_172_138 rfl ?_
  exact w_invokevirtual cd_172_139 (show mt_m 12 519 = some (173, 0) by decide +kernel) (rest := []) rfl (as := [.ref l1]) rfl h8 (Or.inl h9) ⟨Nat.le_of_ble_eq_true rfl, Nat.le_of_ble_eq_true rfl, Nat.le_of_ble_eq_true rfl⟩ h10
theorem b_172_142 {d : Nat} {Q : (Option Value ⊕ Nat) → mi_H → Prop} (n sl : Nat) (f : Nat → mi_C) {l1 : Nat} {l2 : Int64} {l3 : Int64} {l4 : Int32} {l5 : Int32} {l6 : Int32} {s7 : Int32} (h8 : mi_W d 172 144 [some (.ref l1), some (.long l2), none, some (.long l3), none, some (.int l4), some (.int s7), some (.int l6)] [] (n, sl, f) Q) : mi_W d 172 142 [some (.ref l1), some (.long l2), none, some (.long l3), none, some (.int l4), some (.int l5), some (.int l6)] [.int s7] (n, sl, f) Q := by
  refine w_istore (ls' := [some (.ref l1), some (.long l2), none, some (.long l3), none, some (.int l4), some (.int s7), some (.int l6)]) cd_172_142 (Nat.le_of_ble_eq_true rfl) rfl ?_
  exact h8
theorem b_172_144 {d : Nat} {Q : (Option Value ⊕ Nat) → mi_H → Prop} (n sl : Nat) (f : Nat → mi_C) {l1 : Nat} {l2 : Int64} {l3 : Int64} {l4 : Int32} {l5 : Int32} {l6 : Int32} (h7 : mi_W d 172 113 [some (.ref l1), some (.long l2), none, some (.long l3), none, some (.int l4), some (.int l5), some (.int (l6 + 1))] [] (n, sl, f) Q) : mi_W d 172 144 [some (.ref l1), some (.long l2), none, some (.long l3), none, some (.int l4), some (.int l5), some (.int l6)] [] (n, sl, f) Q := by
  refine w_iinc (v := 1) (ls' := [some (.ref l1), some (.long l2), none, some (.long l3), none, some (.int l4), some (.int l5), some (.int (l6 + 1))]) cd_172_144 rfl (by decide) rfl ?_
  exact w_goto cd_172_147 (by decide) h7
theorem b_172_150 {d : Nat} {Q : (Option Value ⊕ Nat) → mi_H → Prop} (n sl : Nat) (f : Nat → mi_C) {l1 : Nat} {l2 : Int64} {l3 : Int64} {l4 : Int32} {l5 : Int32} {l6 : Int32} (h7 : l5 = (0 : Int32) → mi_W d 172 160 [some (.ref l1), some (.long l2), none, some (.long l3), none, some (.int l4), some (.int l5), some (.int l6)] [] (n, sl, f) Q) (h8 : ¬ (l5 = (0 : Int32)) → mi_W d 172 155 [some (.ref l1), some (.long l2), none, some (.long l3), none, some (.int l4), some (.int l5), some (.int l6)] [] (n, sl, f) Q) : mi_W d 172 150 [some (.ref l1), some (.long l2), none, some (.long l3), none, some (.int l4), some (.int l5), some (.int l6)] [] (n, sl, f) Q := by
  refine w_iload cd_172_150 rfl ?_
  exact w_ifeq cd_172_152 (by decide) h7 h8
theorem b_172_155 {d : Nat} {Q : (Option Value ⊕ Nat) → mi_H → Prop} (n sl : Nat) (f : Nat → mi_C) {l1 : Nat} {l2 : Int64} {l3 : Int64} {l4 : Int32} {l5 : Int32} {l6 : Int32} (h7 : mi_W d 172 177 [some (.ref l1), some (.long l2), none, some (.long l3), none, some (.int l4), some (.int l5), some (.int l6)] [.int l5] (n, sl, f) Q) : mi_W d 172 155 [some (.ref l1), some (.long l2), none, some (.long l3), none, some (.int l4), some (.int l5), some (.int l6)] [] (n, sl, f) Q := by
  refine w_iload cd_172_155 rfl ?_
  exact w_goto cd_172_157 (by decide) h7
theorem b_172_160 {d : Nat} {Q : (Option Value ⊕ Nat) → mi_H → Prop} (n sl : Nat) (f : Nat → mi_C) {l1 : Nat} {l2 : Int64} {l3 : Int64} {l4 : Int32} {l5 : Int32} {l6 : Int32} (h7 : ¬ l4 = (0 : Int32) → mi_W d 172 176 [some (.ref l1), some (.long l2), none, some (.long l3), none, some (.int l4), some (.int l5), some (.int l6)] [] (n, sl, f) Q) (h8 : ¬ (¬ l4 = (0 : Int32)) → mi_W d 172 165 [some (.ref l1), some (.long l2), none, some (.long l3), none, some (.int l4), some (.int l5), some (.int l6)] [] (n, sl, f) Q) : mi_W d 172 160 [some (.ref l1), some (.long l2), none, some (.long l3), none, some (.int l4), some (.int l5), some (.int l6)] [] (n, sl, f) Q := by
  refine w_iload cd_172_160 rfl ?_
  exact w_ifne cd_172_162 (by decide) h7 h8
theorem b_172_165 {d : Nat} {Q : (Option Value ⊕ Nat) → mi_H → Prop} (n sl : Nat) (f : Nat → mi_C) {l1 : Nat} {l2 : Int64} {l3 : Int64} {l4 : Int32} {l5 : Int32} {l6 : Int32} {fs7 : List Value} {x10 : Int32} (h8 : f l1 = .inr (12, fs7)) (h9 : l1 < n) (h11 : fs7[58]? = some (.int x10)) (h12 : ¬ x10 = (0 : Int32) → mi_W d 172 176 [some (.ref l1), some (.long l2), none, some (.long l3), none, some (.int l4), some (.int l5), some (.int l6)] [] (n, sl, f) Q) (h13 : ¬ (¬ x10 = (0 : Int32)) → mi_W d 172 172 [some (.ref l1), some (.long l2), none, some (.long l3), none, some (.int l4), some (.int l5), some (.int l6)] [] (n, sl, f) Q) : mi_W d 172 165 [some (.ref l1), some (.long l2), none, some (.long l3), none, some (.int l4), some (.int l5), some (.int l6)] [] (n, sl, f) Q := by
  refine w_aload_n cd_172_165 rfl ?_
  refine w_getfield cd_172_166 (show mt_f 12 506 = some (12, 58) by decide +kernel) h8 h9 h11 ?_
  exact w_ifne cd_172_169 (by decide) h12 h13
theorem b_172_172 {d : Nat} {Q : (Option Value ⊕ Nat) → mi_H → Prop} (n sl : Nat) (f : Nat → mi_C) {l1 : Nat} {l2 : Int64} {l3 : Int64} {l4 : Int32} {l5 : Int32} {l6 : Int32} (h7 : mi_W d 172 177 [some (.ref l1), some (.long l2), none, some (.long l3), none, some (.int l4), some (.int l5), some (.int l6)] [.int 5] (n, sl, f) Q) : mi_W d 172 172 [some (.ref l1), some (.long l2), none, some (.long l3), none, some (.int l4), some (.int l5), some (.int l6)] [] (n, sl, f) Q := by
  refine w_iconst (v := 5) cd_172_172 (by decide) ?_
  exact w_goto cd_172_173 (by decide) h7
theorem b_172_176 {d : Nat} {Q : (Option Value ⊕ Nat) → mi_H → Prop} (n sl : Nat) (f : Nat → mi_C) {l1 : Nat} {l2 : Int64} {l3 : Int64} {l4 : Int32} {l5 : Int32} {l6 : Int32} (h7 : mi_W d 172 177 [some (.ref l1), some (.long l2), none, some (.long l3), none, some (.int l4), some (.int l5), some (.int l6)] [.int 0] (n, sl, f) Q) : mi_W d 172 176 [some (.ref l1), some (.long l2), none, some (.long l3), none, some (.int l4), some (.int l5), some (.int l6)] [] (n, sl, f) Q := by
  refine w_iconst (v := 0) cd_172_176 (by decide) ?_
  exact h7
theorem b_172_177 {d : Nat} {Q : (Option Value ⊕ Nat) → mi_H → Prop} (n sl : Nat) (f : Nat → mi_C) {l1 : Nat} {l2 : Int64} {l3 : Int64} {l4 : Int32} {l5 : Int32} {l6 : Int32} {s7 : Int32} (h8 : Q (.inl (some (.int s7))) (n, sl, f)) : mi_W d 172 177 [some (.ref l1), some (.long l2), none, some (.long l3), none, some (.int l4), some (.int l5), some (.int l6)] [.int s7] (n, sl, f) Q := by
  exact w_ireturn_i cd_172_177 (by decide +kernel) h8
/-! MarloweHostModel.reduce()I -/
set_option maxRecDepth 100000 in
theorem mq_173 : mt_q 173 = my_173 := rfl
set_option maxRecDepth 100000 in
theorem ci_173 : mt_inc 0 my_173.cd = true := by decide +kernel
theorem cd_173_0 : mt_cd 173 0 = some (.aload_n 0) := mt_cd_of (q := (0, .aload_n 0, 1)) mq_173 ci_173 (List.mem_append_left _ (show _ ∈ my_173_0 from List.mem_of_getElem? (i := 0) rfl))
theorem cd_173_1 : mt_cd 173 1 = some (.getfield 445) := mt_cd_of (q := (1, .getfield 445, 3)) mq_173 ci_173 (List.mem_append_left _ (show _ ∈ my_173_0 from List.mem_of_getElem? (i := 1) rfl))
theorem cd_173_4 : mt_cd 173 4 = some (.getfield 496) := mt_cd_of (q := (4, .getfield 496, 3)) mq_173 ci_173 (List.mem_append_left _ (show _ ∈ my_173_0 from List.mem_of_getElem? (i := 2) rfl))
theorem cd_173_7 : mt_cd 173 7 = some (.istore_n 1) := mt_cd_of (q := (7, .istore_n 1, 1)) mq_173 ci_173 (List.mem_append_left _ (show _ ∈ my_173_0 from List.mem_of_getElem? (i := 3) rfl))
theorem cd_173_8 : mt_cd 173 8 = some (.aload_n 0) := mt_cd_of (q := (8, .aload_n 0, 1)) mq_173 ci_173 (List.mem_append_left _ (show _ ∈ my_173_0 from List.mem_of_getElem? (i := 4) rfl))
theorem cd_173_9 : mt_cd 173 9 = some (.iconst 0) := mt_cd_of (q := (9, .iconst 0, 1)) mq_173 ci_173 (List.mem_append_left _ (show _ ∈ my_173_0 from List.mem_of_getElem? (i := 5) rfl))
theorem cd_173_10 : mt_cd 173 10 = some (.putfield 441) := mt_cd_of (q := (10, .putfield 441, 3)) mq_173 ci_173 (List.mem_append_left _ (show _ ∈ my_173_0 from List.mem_of_getElem? (i := 6) rfl))
theorem cd_173_13 : mt_cd 173 13 = some (.aload_n 0) := mt_cd_of (q := (13, .aload_n 0, 1)) mq_173 ci_173 (List.mem_append_left _ (show _ ∈ my_173_0 from List.mem_of_getElem? (i := 7) rfl))
theorem cd_173_14 : mt_cd 173 14 = some (.getfield 77) := mt_cd_of (q := (14, .getfield 77, 3)) mq_173 ci_173 (List.mem_append_left _ (show _ ∈ my_173_0 from List.mem_of_getElem? (i := 8) rfl))
theorem cd_173_17 : mt_cd 173 17 = some (.iload_n 1) := mt_cd_of (q := (17, .iload_n 1, 1)) mq_173 ci_173 (List.mem_append_left _ (show _ ∈ my_173_0 from List.mem_of_getElem? (i := 9) rfl))
theorem cd_173_18 : mt_cd 173 18 = some (.iaload) := mt_cd_of (q := (18, .iaload, 1)) mq_173 ci_173 (List.mem_append_left _ (show _ ∈ my_173_0 from List.mem_of_getElem? (i := 10) rfl))
theorem cd_173_19 : mt_cd 173 19 = some (.tableswitch 535 0 5 #[37, 108, 108, 347, 397, 445]) := mt_cd_of (q := (19, .tableswitch 535 0 5 #[37, 108, 108, 347, 397, 445], 37)) mq_173 ci_173 (List.mem_append_left _ (show _ ∈ my_173_0 from List.mem_of_getElem? (i := 11) rfl))
theorem cd_173_56 : mt_cd 173 56 = some (.iconst 0) := mt_cd_of (q := (56, .iconst 0, 1)) mq_173 ci_173 (List.mem_append_left _ (show _ ∈ my_173_0 from List.mem_of_getElem? (i := 12) rfl))
theorem cd_173_57 : mt_cd 173 57 = some (.istore_n 2) := mt_cd_of (q := (57, .istore_n 2, 1)) mq_173 ci_173 (List.mem_append_left _ (show _ ∈ my_173_0 from List.mem_of_getElem? (i := 13) rfl))
theorem cd_173_58 : mt_cd 173 58 = some (.iload_n 2) := mt_cd_of (q := (58, .iload_n 2, 1)) mq_173 ci_173 (List.mem_append_left _ (show _ ∈ my_173_0 from List.mem_of_getElem? (i := 14) rfl))
theorem cd_173_59 : mt_cd 173 59 = some (.bipush 32) := mt_cd_of (q := (59, .bipush 32, 2)) mq_173 ci_173 (List.mem_append_left _ (show _ ∈ my_173_0 from List.mem_of_getElem? (i := 15) rfl))
theorem cd_173_61 : mt_cd 173 61 = some (.if_icmp .ge 23) := mt_cd_of (q := (61, .if_icmp .ge 23, 3)) mq_173 ci_173 (List.mem_append_left _ (show _ ∈ my_173_0 from List.mem_of_getElem? (i := 16) rfl))
theorem cd_173_64 : mt_cd 173 64 = some (.aload_n 0) := mt_cd_of (q := (64, .aload_n 0, 1)) mq_173 ci_173 (List.mem_append_left _ (show _ ∈ my_173_0 from List.mem_of_getElem? (i := 17) rfl))
theorem cd_173_65 : mt_cd 173 65 = some (.getfield 445) := mt_cd_of (q := (65, .getfield 445, 3)) mq_173 ci_173 (List.mem_append_left _ (show _ ∈ my_173_0 from List.mem_of_getElem? (i := 18) rfl))
theorem cd_173_68 : mt_cd 173 68 = some (.getfield 448) := mt_cd_of (q := (68, .getfield 448, 3)) mq_173 ci_173 (List.mem_append_left _ (show _ ∈ my_173_0 from List.mem_of_getElem? (i := 19) rfl))
theorem cd_173_71 : mt_cd 173 71 = some (.iload_n 2) := mt_cd_of (q := (71, .iload_n 2, 1)) mq_173 ci_173 (List.mem_append_left _ (show _ ∈ my_173_0 from List.mem_of_getElem? (i := 20) rfl))
theorem cd_173_72 : mt_cd 173 72 = some (.laload) := mt_cd_of (q := (72, .laload, 1)) mq_173 ci_173 (List.mem_append_left _ (show _ ∈ my_173_0 from List.mem_of_getElem? (i := 21) rfl))
theorem cd_173_73 : mt_cd 173 73 = some (.lconst 0) := mt_cd_of (q := (73, .lconst 0, 1)) mq_173 ci_173 (List.mem_append_left _ (show _ ∈ my_173_0 from List.mem_of_getElem? (i := 22) rfl))
theorem cd_173_74 : mt_cd 173 74 = some (.lcmp) := mt_cd_of (q := (74, .lcmp, 1)) mq_173 ci_173 (List.mem_append_left _ (show _ ∈ my_173_0 from List.mem_of_getElem? (i := 23) rfl))
theorem cd_173_75 : mt_cd 173 75 = some (.ifCond .ne 9) := mt_cd_of (q := (75, .ifCond .ne 9, 3)) mq_173 ci_173 (List.mem_append_left _ (show _ ∈ my_173_0 from List.mem_of_getElem? (i := 24) rfl))
theorem cd_173_78 : mt_cd 173 78 = some (.iinc 2 1) := mt_cd_of (q := (78, .iinc 2 1, 3)) mq_173 ci_173 (List.mem_append_left _ (show _ ∈ my_173_0 from List.mem_of_getElem? (i := 25) rfl))
theorem cd_173_81 : mt_cd 173 81 = some (.goto (-23)) := mt_cd_of (q := (81, .goto (-23), 3)) mq_173 ci_173 (List.mem_append_left _ (show _ ∈ my_173_0 from List.mem_of_getElem? (i := 26) rfl))
theorem cd_173_84 : mt_cd 173 84 = some (.iload_n 2) := mt_cd_of (q := (84, .iload_n 2, 1)) mq_173 ci_173 (List.mem_append_left _ (show _ ∈ my_173_0 from List.mem_of_getElem? (i := 27) rfl))
theorem cd_173_85 : mt_cd 173 85 = some (.bipush 32) := mt_cd_of (q := (85, .bipush 32, 2)) mq_173 ci_173 (List.mem_append_left _ (show _ ∈ my_173_0 from List.mem_of_getElem? (i := 28) rfl))
theorem cd_173_87 : mt_cd 173 87 = some (.if_icmp .ne 5) := mt_cd_of (q := (87, .if_icmp .ne 5, 3)) mq_173 ci_173 (List.mem_append_left _ (show _ ∈ my_173_0 from List.mem_of_getElem? (i := 29) rfl))
theorem cd_173_90 : mt_cd 173 90 = some (.iconst 0) := mt_cd_of (q := (90, .iconst 0, 1)) mq_173 ci_173 (List.mem_append_left _ (show _ ∈ my_173_0 from List.mem_of_getElem? (i := 30) rfl))
theorem cd_173_91 : mt_cd 173 91 = some (.ireturn) := mt_cd_of (q := (91, .ireturn, 1)) mq_173 ci_173 (List.mem_append_left _ (show _ ∈ my_173_0 from List.mem_of_getElem? (i := 31) rfl))
theorem cd_173_92 : mt_cd 173 92 = some (.aload_n 0) := mt_cd_of (q := (92, .aload_n 0, 1)) mq_173 ci_173 (List.mem_append_left _ (show _ ∈ my_173_0 from List.mem_of_getElem? (i := 32) rfl))
theorem cd_173_93 : mt_cd 173 93 = some (.iload_n 2) := mt_cd_of (q := (93, .iload_n 2, 1)) mq_173 ci_173 (List.mem_append_left _ (show _ ∈ my_173_0 from List.mem_of_getElem? (i := 33) rfl))
theorem cd_173_94 : mt_cd 173 94 = some (.iconst 4) := mt_cd_of (q := (94, .iconst 4, 1)) mq_173 ci_173 (List.mem_append_left _ (show _ ∈ my_173_0 from List.mem_of_getElem? (i := 34) rfl))
theorem cd_173_95 : mt_cd 173 95 = some (.idiv) := mt_cd_of (q := (95, .idiv, 1)) mq_173 ci_173 (List.mem_append_left _ (show _ ∈ my_173_0 from List.mem_of_getElem? (i := 35) rfl))
theorem cd_173_96 : mt_cd 173 96 = some (.iload_n 2) := mt_cd_of (q := (96, .iload_n 2, 1)) mq_173 ci_173 (List.mem_append_left _ (show _ ∈ my_173_0 from List.mem_of_getElem? (i := 36) rfl))
theorem cd_173_97 : mt_cd 173 97 = some (.iconst 4) := mt_cd_of (q := (97, .iconst 4, 1)) mq_173 ci_173 (List.mem_append_left _ (show _ ∈ my_173_0 from List.mem_of_getElem? (i := 37) rfl))
theorem cd_173_98 : mt_cd 173 98 = some (.idiv) := mt_cd_of (q := (98, .idiv, 1)) mq_173 ci_173 (List.mem_append_left _ (show _ ∈ my_173_0 from List.mem_of_getElem? (i := 38) rfl))
theorem cd_173_99 : mt_cd 173 99 = some (.iload_n 2) := mt_cd_of (q := (99, .iload_n 2, 1)) mq_173 ci_173 (List.mem_append_left _ (show _ ∈ my_173_0 from List.mem_of_getElem? (i := 39) rfl))
theorem cd_173_100 : mt_cd 173 100 = some (.iconst 4) := mt_cd_of (q := (100, .iconst 4, 1)) mq_173 ci_173 (List.mem_append_left _ (show _ ∈ my_173_0 from List.mem_of_getElem? (i := 40) rfl))
theorem cd_173_101 : mt_cd 173 101 = some (.irem) := mt_cd_of (q := (101, .irem, 1)) mq_173 ci_173 (List.mem_append_left _ (show _ ∈ my_173_0 from List.mem_of_getElem? (i := 41) rfl))
theorem cd_173_102 : mt_cd 173 102 = some (.aload_n 0) := mt_cd_of (q := (102, .aload_n 0, 1)) mq_173 ci_173 (List.mem_append_left _ (show _ ∈ my_173_0 from List.mem_of_getElem? (i := 42) rfl))
theorem cd_173_103 : mt_cd 173 103 = some (.getfield 445) := mt_cd_of (q := (103, .getfield 445, 3)) mq_173 ci_173 (List.mem_append_left _ (show _ ∈ my_173_0 from List.mem_of_getElem? (i := 43) rfl))
theorem cd_173_106 : mt_cd 173 106 = some (.getfield 448) := mt_cd_of (q := (106, .getfield 448, 3)) mq_173 ci_173 (List.mem_append_left _ (show _ ∈ my_173_0 from List.mem_of_getElem? (i := 44) rfl))
theorem cd_173_109 : mt_cd 173 109 = some (.iload_n 2) := mt_cd_of (q := (109, .iload_n 2, 1)) mq_173 ci_173 (List.mem_append_left _ (show _ ∈ my_173_0 from List.mem_of_getElem? (i := 45) rfl))
theorem cd_173_110 : mt_cd 173 110 = some (.laload) := mt_cd_of (q := (110, .laload, 1)) mq_173 ci_173 (List.mem_append_left _ (show _ ∈ my_173_0 from List.mem_of_getElem? (i := 46) rfl))
theorem cd_173_111 : mt_cd 173 111 = some (.invokevirtual 499) := mt_cd_of (q := (111, .invokevirtual 499, 3)) mq_173 ci_173 (List.mem_append_left _ (show _ ∈ my_173_0 from List.mem_of_getElem? (i := 47) rfl))
theorem cd_173_114 : mt_cd 173 114 = some (.aload_n 0) := mt_cd_of (q := (114, .aload_n 0, 1)) mq_173 ci_173 (List.mem_append_left _ (show _ ∈ my_173_0 from List.mem_of_getElem? (i := 48) rfl))
theorem cd_173_115 : mt_cd 173 115 = some (.getfield 445) := mt_cd_of (q := (115, .getfield 445, 3)) mq_173 ci_173 (List.mem_append_left _ (show _ ∈ my_173_0 from List.mem_of_getElem? (i := 49) rfl))
theorem cd_173_118 : mt_cd 173 118 = some (.getfield 448) := mt_cd_of (q := (118, .getfield 448, 3)) mq_173 ci_173 (List.mem_append_left _ (show _ ∈ my_173_0 from List.mem_of_getElem? (i := 50) rfl))
theorem cd_173_121 : mt_cd 173 121 = some (.iload_n 2) := mt_cd_of (q := (121, .iload_n 2, 1)) mq_173 ci_173 (List.mem_append_left _ (show _ ∈ my_173_0 from List.mem_of_getElem? (i := 51) rfl))
theorem cd_173_122 : mt_cd 173 122 = some (.lconst 0) := mt_cd_of (q := (122, .lconst 0, 1)) mq_173 ci_173 (List.mem_append_left _ (show _ ∈ my_173_0 from List.mem_of_getElem? (i := 52) rfl))
theorem cd_173_123 : mt_cd 173 123 = some (.lastore) := mt_cd_of (q := (123, .lastore, 1)) mq_173 ci_173 (List.mem_append_left _ (show _ ∈ my_173_0 from List.mem_of_getElem? (i := 53) rfl))
theorem cd_173_124 : mt_cd 173 124 = some (.goto 474) := mt_cd_of (q := (124, .goto 474, 3)) mq_173 ci_173 (List.mem_append_left _ (show _ ∈ my_173_0 from List.mem_of_getElem? (i := 54) rfl))
theorem cd_173_127 : mt_cd 173 127 = some (.aload_n 0) := mt_cd_of (q := (127, .aload_n 0, 1)) mq_173 ci_173 (List.mem_append_left _ (show _ ∈ my_173_0 from List.mem_of_getElem? (i := 55) rfl))
theorem cd_173_128 : mt_cd 173 128 = some (.aload_n 0) := mt_cd_of (q := (128, .aload_n 0, 1)) mq_173 ci_173 (List.mem_append_left _ (show _ ∈ my_173_0 from List.mem_of_getElem? (i := 56) rfl))
theorem cd_173_129 : mt_cd 173 129 = some (.getfield 89) := mt_cd_of (q := (129, .getfield 89, 3)) mq_173 ci_173 (List.mem_append_left _ (show _ ∈ my_173_0 from List.mem_of_getElem? (i := 57) rfl))
theorem cd_173_132 : mt_cd 173 132 = some (.iload_n 1) := mt_cd_of (q := (132, .iload_n 1, 1)) mq_173 ci_173 (List.mem_append_left _ (show _ ∈ my_173_0 from List.mem_of_getElem? (i := 58) rfl))
theorem cd_173_133 : mt_cd 173 133 = some (.iaload) := mt_cd_of (q := (133, .iaload, 1)) mq_173 ci_173 (List.mem_append_left _ (show _ ∈ my_173_0 from List.mem_of_getElem? (i := 59) rfl))
theorem cd_173_134 : mt_cd 173 134 = some (.invokevirtual 451) := mt_cd_of (q := (134, .invokevirtual 451, 3)) mq_173 ci_173 (List.mem_append_right _ (List.mem_append_left _ (show _ ∈ my_173_1 from List.mem_of_getElem? (i := 0) rfl)))
theorem cd_173_137 : mt_cd 173 137 = some (.lstore_n 2) := mt_cd_of (q := (137, .lstore_n 2, 1)) mq_173 ci_173 (List.mem_append_right _ (List.mem_append_left _ (show _ ∈ my_173_1 from List.mem_of_getElem? (i := 1) rfl)))
theorem cd_173_138 : mt_cd 173 138 = some (.aload_n 0) := mt_cd_of (q := (138, .aload_n 0, 1)) mq_173 ci_173 (List.mem_append_right _ (List.mem_append_left _ (show _ ∈ my_173_1 from List.mem_of_getElem? (i := 2) rfl)))
theorem cd_173_139 : mt_cd 173 139 = some (.getfield 441) := mt_cd_of (q := (139, .getfield 441, 3)) mq_173 ci_173 (List.mem_append_right _ (List.mem_append_left _ (show _ ∈ my_173_1 from List.mem_of_getElem? (i := 3) rfl)))
theorem cd_173_142 : mt_cd 173 142 = some (.ifCond .eq 6) := mt_cd_of (q := (142, .ifCond .eq 6, 3)) mq_173 ci_173 (List.mem_append_right _ (List.mem_append_left _ (show _ ∈ my_173_1 from List.mem_of_getElem? (i := 4) rfl)))
theorem cd_173_145 : mt_cd 173 145 = some (.bipush 6) := mt_cd_of (q := (145, .bipush 6, 2)) mq_173 ci_173 (List.mem_append_right _ (List.mem_append_left _ (show _ ∈ my_173_1 from List.mem_of_getElem? (i := 5) rfl)))
theorem cd_173_147 : mt_cd 173 147 = some (.ireturn) := mt_cd_of (q := (147, .ireturn, 1)) mq_173 ci_173 (List.mem_append_right _ (List.mem_append_left _ (show _ ∈ my_173_1 from List.mem_of_getElem? (i := 6) rfl)))
theorem cd_173_148 : mt_cd 173 148 = some (.lload_n 2) := mt_cd_of (q := (148, .lload_n 2, 1)) mq_173 ci_173 (List.mem_append_right _ (List.mem_append_left _ (show _ ∈ my_173_1 from List.mem_of_getElem? (i := 7) rfl)))
theorem cd_173_149 : mt_cd 173 149 = some (.lconst 0) := mt_cd_of (q := (149, .lconst 0, 1)) mq_173 ci_173 (List.mem_append_right _ (List.mem_append_left _ (show _ ∈ my_173_1 from List.mem_of_getElem? (i := 8) rfl)))
theorem cd_173_150 : mt_cd 173 150 = some (.lcmp) := mt_cd_of (q := (150, .lcmp, 1)) mq_173 ci_173 (List.mem_append_right _ (List.mem_append_left _ (show _ ∈ my_173_1 from List.mem_of_getElem? (i := 9) rfl)))
theorem cd_173_151 : mt_cd 173 151 = some (.ifCond .gt 12) := mt_cd_of (q := (151, .ifCond .gt 12, 3)) mq_173 ci_173 (List.mem_append_right _ (List.mem_append_left _ (show _ ∈ my_173_1 from List.mem_of_getElem? (i := 10) rfl)))
theorem cd_173_154 : mt_cd 173 154 = some (.aload_n 0) := mt_cd_of (q := (154, .aload_n 0, 1)) mq_173 ci_173 (List.mem_append_right _ (List.mem_append_left _ (show _ ∈ my_173_1 from List.mem_of_getElem? (i := 11) rfl)))
theorem cd_173_155 : mt_cd 173 155 = some (.iconst 2) := mt_cd_of (q := (155, .iconst 2, 1)) mq_173 ci_173 (List.mem_append_right _ (List.mem_append_left _ (show _ ∈ my_173_1 from List.mem_of_getElem? (i := 12) rfl)))
theorem cd_173_156 : mt_cd 173 156 = some (.iload_n 1) := mt_cd_of (q := (156, .iload_n 1, 1)) mq_173 ci_173 (List.mem_append_right _ (List.mem_append_left _ (show _ ∈ my_173_1 from List.mem_of_getElem? (i := 13) rfl)))
theorem cd_173_157 : mt_cd 173 157 = some (.invokevirtual 502) := mt_cd_of (q := (157, .invokevirtual 502, 3)) mq_173 ci_173 (List.mem_append_right _ (List.mem_append_left _ (show _ ∈ my_173_1 from List.mem_of_getElem? (i := 14) rfl)))
theorem cd_173_160 : mt_cd 173 160 = some (.goto 190) := mt_cd_of (q := (160, .goto 190, 3)) mq_173 ci_173 (List.mem_append_right _ (List.mem_append_left _ (show _ ∈ my_173_1 from List.mem_of_getElem? (i := 15) rfl)))
theorem cd_173_163 : mt_cd 173 163 = some (.iconst 4) := mt_cd_of (q := (163, .iconst 4, 1)) mq_173 ci_173 (List.mem_append_right _ (List.mem_append_left _ (show _ ∈ my_173_1 from List.mem_of_getElem? (i := 16) rfl)))
theorem cd_173_164 : mt_cd 173 164 = some (.aload_n 0) := mt_cd_of (q := (164, .aload_n 0, 1)) mq_173 ci_173 (List.mem_append_right _ (List.mem_append_left _ (show _ ∈ my_173_1 from List.mem_of_getElem? (i := 17) rfl)))
theorem cd_173_165 : mt_cd 173 165 = some (.getfield 80) := mt_cd_of (q := (165, .getfield 80, 3)) mq_173 ci_173 (List.mem_append_right _ (List.mem_append_left _ (show _ ∈ my_173_1 from List.mem_of_getElem? (i := 18) rfl)))
theorem cd_173_168 : mt_cd 173 168 = some (.iload_n 1) := mt_cd_of (q := (168, .iload_n 1, 1)) mq_173 ci_173 (List.mem_append_right _ (List.mem_append_left _ (show _ ∈ my_173_1 from List.mem_of_getElem? (i := 19) rfl)))
theorem cd_173_169 : mt_cd 173 169 = some (.iaload) := mt_cd_of (q := (169, .iaload, 1)) mq_173 ci_173 (List.mem_append_right _ (List.mem_append_left _ (show _ ∈ my_173_1 from List.mem_of_getElem? (i := 20) rfl)))
theorem cd_173_170 : mt_cd 173 170 = some (.imul) := mt_cd_of (q := (170, .imul, 1)) mq_173 ci_173 (List.mem_append_right _ (List.mem_append_left _ (show _ ∈ my_173_1 from List.mem_of_getElem? (i := 21) rfl)))
theorem cd_173_171 : mt_cd 173 171 = some (.aload_n 0) := mt_cd_of (q := (171, .aload_n 0, 1)) mq_173 ci_173 (List.mem_append_right _ (List.mem_append_left _ (show _ ∈ my_173_1 from List.mem_of_getElem? (i := 22) rfl)))
theorem cd_173_172 : mt_cd 173 172 = some (.getfield 86) := mt_cd_of (q := (172, .getfield 86, 3)) mq_173 ci_173 (List.mem_append_right _ (List.mem_append_left _ (show _ ∈ my_173_1 from List.mem_of_getElem? (i := 23) rfl)))
theorem cd_173_175 : mt_cd 173 175 = some (.iload_n 1) := mt_cd_of (q := (175, .iload_n 1, 1)) mq_173 ci_173 (List.mem_append_right _ (List.mem_append_left _ (show _ ∈ my_173_1 from List.mem_of_getElem? (i := 24) rfl)))
theorem cd_173_176 : mt_cd 173 176 = some (.iaload) := mt_cd_of (q := (176, .iaload, 1)) mq_173 ci_173 (List.mem_append_right _ (List.mem_append_left _ (show _ ∈ my_173_1 from List.mem_of_getElem? (i := 25) rfl)))
theorem cd_173_177 : mt_cd 173 177 = some (.iadd) := mt_cd_of (q := (177, .iadd, 1)) mq_173 ci_173 (List.mem_append_right _ (List.mem_append_left _ (show _ ∈ my_173_1 from List.mem_of_getElem? (i := 26) rfl)))
theorem cd_173_178 : mt_cd 173 178 = some (.istore 4) := mt_cd_of (q := (178, .istore 4, 2)) mq_173 ci_173 (List.mem_append_right _ (List.mem_append_left _ (show _ ∈ my_173_1 from List.mem_of_getElem? (i := 27) rfl)))
theorem cd_173_180 : mt_cd 173 180 = some (.lload_n 2) := mt_cd_of (q := (180, .lload_n 2, 1)) mq_173 ci_173 (List.mem_append_right _ (List.mem_append_left _ (show _ ∈ my_173_1 from List.mem_of_getElem? (i := 28) rfl)))
theorem cd_173_181 : mt_cd 173 181 = some (.aload_n 0) := mt_cd_of (q := (181, .aload_n 0, 1)) mq_173 ci_173 (List.mem_append_right _ (List.mem_append_left _ (show _ ∈ my_173_1 from List.mem_of_getElem? (i := 29) rfl)))
theorem cd_173_182 : mt_cd 173 182 = some (.getfield 445) := mt_cd_of (q := (182, .getfield 445, 3)) mq_173 ci_173 (List.mem_append_right _ (List.mem_append_left _ (show _ ∈ my_173_1 from List.mem_of_getElem? (i := 30) rfl)))
theorem cd_173_185 : mt_cd 173 185 = some (.getfield 448) := mt_cd_of (q := (185, .getfield 448, 3)) mq_173 ci_173 (List.mem_append_right _ (List.mem_append_left _ (show _ ∈ my_173_1 from List.mem_of_getElem? (i := 31) rfl)))
theorem cd_173_188 : mt_cd 173 188 = some (.iload 4) := mt_cd_of (q := (188, .iload 4, 2)) mq_173 ci_173 (List.mem_append_right _ (List.mem_append_left _ (show _ ∈ my_173_1 from List.mem_of_getElem? (i := 32) rfl)))
theorem cd_173_190 : mt_cd 173 190 = some (.laload) := mt_cd_of (q := (190, .laload, 1)) mq_173 ci_173 (List.mem_append_right _ (List.mem_append_left _ (show _ ∈ my_173_1 from List.mem_of_getElem? (i := 33) rfl)))
theorem cd_173_191 : mt_cd 173 191 = some (.lcmp) := mt_cd_of (q := (191, .lcmp, 1)) mq_173 ci_173 (List.mem_append_right _ (List.mem_append_left _ (show _ ∈ my_173_1 from List.mem_of_getElem? (i := 34) rfl)))
theorem cd_173_192 : mt_cd 173 192 = some (.ifCond .ge 7) := mt_cd_of (q := (192, .ifCond .ge 7, 3)) mq_173 ci_173 (List.mem_append_right _ (List.mem_append_left _ (show _ ∈ my_173_1 from List.mem_of_getElem? (i := 35) rfl)))
theorem cd_173_195 : mt_cd 173 195 = some (.lload_n 2) := mt_cd_of (q := (195, .lload_n 2, 1)) mq_173 ci_173 (List.mem_append_right _ (List.mem_append_left _ (show _ ∈ my_173_1 from List.mem_of_getElem? (i := 36) rfl)))
theorem cd_173_196 : mt_cd 173 196 = some (.goto 13) := mt_cd_of (q := (196, .goto 13, 3)) mq_173 ci_173 (List.mem_append_right _ (List.mem_append_left _ (show _ ∈ my_173_1 from List.mem_of_getElem? (i := 37) rfl)))
theorem cd_173_199 : mt_cd 173 199 = some (.aload_n 0) := mt_cd_of (q := (199, .aload_n 0, 1)) mq_173 ci_173 (List.mem_append_right _ (List.mem_append_left _ (show _ ∈ my_173_1 from List.mem_of_getElem? (i := 38) rfl)))
theorem cd_173_200 : mt_cd 173 200 = some (.getfield 445) := mt_cd_of (q := (200, .getfield 445, 3)) mq_173 ci_173 (List.mem_append_right _ (List.mem_append_left _ (show _ ∈ my_173_1 from List.mem_of_getElem? (i := 39) rfl)))
theorem cd_173_203 : mt_cd 173 203 = some (.getfield 448) := mt_cd_of (q := (203, .getfield 448, 3)) mq_173 ci_173 (List.mem_append_right _ (List.mem_append_left _ (show _ ∈ my_173_1 from List.mem_of_getElem? (i := 40) rfl)))
theorem cd_173_206 : mt_cd 173 206 = some (.iload 4) := mt_cd_of (q := (206, .iload 4, 2)) mq_173 ci_173 (List.mem_append_right _ (List.mem_append_left _ (show _ ∈ my_173_1 from List.mem_of_getElem? (i := 41) rfl)))
theorem cd_173_208 : mt_cd 173 208 = some (.laload) := mt_cd_of (q := (208, .laload, 1)) mq_173 ci_173 (List.mem_append_right _ (List.mem_append_left _ (show _ ∈ my_173_1 from List.mem_of_getElem? (i := 42) rfl)))
theorem cd_173_209 : mt_cd 173 209 = some (.lstore 5) := mt_cd_of (q := (209, .lstore 5, 2)) mq_173 ci_173 (List.mem_append_right _ (List.mem_append_left _ (show _ ∈ my_173_1 from List.mem_of_getElem? (i := 43) rfl)))
theorem cd_173_211 : mt_cd 173 211 = some (.lload 5) := mt_cd_of (q := (211, .lload 5, 2)) mq_173 ci_173 (List.mem_append_right _ (List.mem_append_left _ (show _ ∈ my_173_1 from List.mem_of_getElem? (i := 44) rfl)))
theorem cd_173_213 : mt_cd 173 213 = some (.lload_n 2) := mt_cd_of (q := (213, .lload_n 2, 1)) mq_173 ci_173 (List.mem_append_right _ (List.mem_append_left _ (show _ ∈ my_173_1 from List.mem_of_getElem? (i := 45) rfl)))
theorem cd_173_214 : mt_cd 173 214 = some (.lcmp) := mt_cd_of (q := (214, .lcmp, 1)) mq_173 ci_173 (List.mem_append_right _ (List.mem_append_left _ (show _ ∈ my_173_1 from List.mem_of_getElem? (i := 46) rfl)))
theorem cd_173_215 : mt_cd 173 215 = some (.ifCond .ge 9) := mt_cd_of (q := (215, .ifCond .ge 9, 3)) mq_173 ci_173 (List.mem_append_right _ (List.mem_append_left _ (show _ ∈ my_173_1 from List.mem_of_getElem? (i := 47) rfl)))
theorem cd_173_218 : mt_cd 173 218 = some (.aload_n 0) := mt_cd_of (q := (218, .aload_n 0, 1)) mq_173 ci_173 (List.mem_append_right _ (List.mem_append_left _ (show _ ∈ my_173_1 from List.mem_of_getElem? (i := 48) rfl)))
theorem cd_173_219 : mt_cd 173 219 = some (.iconst 3) := mt_cd_of (q := (219, .iconst 3, 1)) mq_173 ci_173 (List.mem_append_right _ (List.mem_append_left _ (show _ ∈ my_173_1 from List.mem_of_getElem? (i := 49) rfl)))
theorem cd_173_220 : mt_cd 173 220 = some (.iload_n 1) := mt_cd_of (q := (220, .iload_n 1, 1)) mq_173 ci_173 (List.mem_append_right _ (List.mem_append_left _ (show _ ∈ my_173_1 from List.mem_of_getElem? (i := 50) rfl)))
theorem cd_173_221 : mt_cd 173 221 = some (.invokevirtual 502) := mt_cd_of (q := (221, .invokevirtual 502, 3)) mq_173 ci_173 (List.mem_append_right _ (List.mem_append_left _ (show _ ∈ my_173_1 from List.mem_of_getElem? (i := 51) rfl)))
theorem cd_173_224 : mt_cd 173 224 = some (.aload_n 0) := mt_cd_of (q := (224, .aload_n 0, 1)) mq_173 ci_173 (List.mem_append_right _ (List.mem_append_left _ (show _ ∈ my_173_1 from List.mem_of_getElem? (i := 52) rfl)))
theorem cd_173_225 : mt_cd 173 225 = some (.getfield 445) := mt_cd_of (q := (225, .getfield 445, 3)) mq_173 ci_173 (List.mem_append_right _ (List.mem_append_left _ (show _ ∈ my_173_1 from List.mem_of_getElem? (i := 53) rfl)))
theorem cd_173_228 : mt_cd 173 228 = some (.getfield 448) := mt_cd_of (q := (228, .getfield 448, 3)) mq_173 ci_173 (List.mem_append_right _ (List.mem_append_left _ (show _ ∈ my_173_1 from List.mem_of_getElem? (i := 54) rfl)))
theorem cd_173_231 : mt_cd 173 231 = some (.iload 4) := mt_cd_of (q := (231, .iload 4, 2)) mq_173 ci_173 (List.mem_append_right _ (List.mem_append_left _ (show _ ∈ my_173_1 from List.mem_of_getElem? (i := 55) rfl)))
theorem cd_173_233 : mt_cd 173 233 = some (.dup2) := mt_cd_of (q := (233, .dup2, 1)) mq_173 ci_173 (List.mem_append_right _ (List.mem_append_left _ (show _ ∈ my_173_1 from List.mem_of_getElem? (i := 56) rfl)))
theorem cd_173_234 : mt_cd 173 234 = some (.laload) := mt_cd_of (q := (234, .laload, 1)) mq_173 ci_173 (List.mem_append_right _ (List.mem_append_left _ (show _ ∈ my_173_1 from List.mem_of_getElem? (i := 57) rfl)))
theorem cd_173_235 : mt_cd 173 235 = some (.lload 5) := mt_cd_of (q := (235, .lload 5, 2)) mq_173 ci_173 (List.mem_append_right _ (List.mem_append_left _ (show _ ∈ my_173_1 from List.mem_of_getElem? (i := 58) rfl)))
theorem cd_173_237 : mt_cd 173 237 = some (.lsub) := mt_cd_of (q := (237, .lsub, 1)) mq_173 ci_173 (List.mem_append_right _ (List.mem_append_left _ (show _ ∈ my_173_1 from List.mem_of_getElem? (i := 59) rfl)))
theorem cd_173_238 : mt_cd 173 238 = some (.lastore) := mt_cd_of (q := (238, .lastore, 1)) mq_173 ci_173 (List.mem_append_right _ (List.mem_append_right _ (List.mem_append_left _ (show _ ∈ my_173_2 from List.mem_of_getElem? (i := 0) rfl))))
theorem cd_173_239 : mt_cd 173 239 = some (.aload_n 0) := mt_cd_of (q := (239, .aload_n 0, 1)) mq_173 ci_173 (List.mem_append_right _ (List.mem_append_right _ (List.mem_append_left _ (show _ ∈ my_173_2 from List.mem_of_getElem? (i := 1) rfl))))
theorem cd_173_240 : mt_cd 173 240 = some (.getfield 77) := mt_cd_of (q := (240, .getfield 77, 3)) mq_173 ci_173 (List.mem_append_right _ (List.mem_append_right _ (List.mem_append_left _ (show _ ∈ my_173_2 from List.mem_of_getElem? (i := 2) rfl))))
theorem cd_173_243 : mt_cd 173 243 = some (.iload_n 1) := mt_cd_of (q := (243, .iload_n 1, 1)) mq_173 ci_173 (List.mem_append_right _ (List.mem_append_right _ (List.mem_append_left _ (show _ ∈ my_173_2 from List.mem_of_getElem? (i := 3) rfl))))
theorem cd_173_244 : mt_cd 173 244 = some (.iaload) := mt_cd_of (q := (244, .iaload, 1)) mq_173 ci_173 (List.mem_append_right _ (List.mem_append_right _ (List.mem_append_left _ (show _ ∈ my_173_2 from List.mem_of_getElem? (i := 4) rfl))))
theorem cd_173_245 : mt_cd 173 245 = some (.iconst 1) := mt_cd_of (q := (245, .iconst 1, 1)) mq_173 ci_173 (List.mem_append_right _ (List.mem_append_right _ (List.mem_append_left _ (show _ ∈ my_173_2 from List.mem_of_getElem? (i := 5) rfl))))
theorem cd_173_246 : mt_cd 173 246 = some (.if_icmp .ne 37) := mt_cd_of (q := (246, .if_icmp .ne 37, 3)) mq_173 ci_173 (List.mem_append_right _ (List.mem_append_right _ (List.mem_append_left _ (show _ ∈ my_173_2 from List.mem_of_getElem? (i := 6) rfl))))
theorem cd_173_249 : mt_cd 173 249 = some (.lload 5) := mt_cd_of (q := (249, .lload 5, 2)) mq_173 ci_173 (List.mem_append_right _ (List.mem_append_right _ (List.mem_append_left _ (show _ ∈ my_173_2 from List.mem_of_getElem? (i := 7) rfl))))
theorem cd_173_251 : mt_cd 173 251 = some (.lconst 0) := mt_cd_of (q := (251, .lconst 0, 1)) mq_173 ci_173 (List.mem_append_right _ (List.mem_append_right _ (List.mem_append_left _ (show _ ∈ my_173_2 from List.mem_of_getElem? (i := 8) rfl))))
theorem cd_173_252 : mt_cd 173 252 = some (.lcmp) := mt_cd_of (q := (252, .lcmp, 1)) mq_173 ci_173 (List.mem_append_right _ (List.mem_append_right _ (List.mem_append_left _ (show _ ∈ my_173_2 from List.mem_of_getElem? (i := 9) rfl))))
theorem cd_173_253 : mt_cd 173 253 = some (.ifCond .le 97) := mt_cd_of (q := (253, .ifCond .le 97, 3)) mq_173 ci_173 (List.mem_append_right _ (List.mem_append_right _ (List.mem_append_left _ (show _ ∈ my_173_2 from List.mem_of_getElem? (i := 10) rfl))))
theorem cd_173_256 : mt_cd 173 256 = some (.aload_n 0) := mt_cd_of (q := (256, .aload_n 0, 1)) mq_173 ci_173 (List.mem_append_right _ (List.mem_append_right _ (List.mem_append_left _ (show _ ∈ my_173_2 from List.mem_of_getElem? (i := 11) rfl))))
theorem cd_173_257 : mt_cd 173 257 = some (.aload_n 0) := mt_cd_of (q := (257, .aload_n 0, 1)) mq_173 ci_173 (List.mem_append_right _ (List.mem_append_right _ (List.mem_append_left _ (show _ ∈ my_173_2 from List.mem_of_getElem? (i := 12) rfl))))
theorem cd_173_258 : mt_cd 173 258 = some (.getfield 80) := mt_cd_of (q := (258, .getfield 80, 3)) mq_173 ci_173 (List.mem_append_right _ (List.mem_append_right _ (List.mem_append_left _ (show _ ∈ my_173_2 from List.mem_of_getElem? (i := 13) rfl))))
theorem cd_173_261 : mt_cd 173 261 = some (.iload_n 1) := mt_cd_of (q := (261, .iload_n 1, 1)) mq_173 ci_173 (List.mem_append_right _ (List.mem_append_right _ (List.mem_append_left _ (show _ ∈ my_173_2 from List.mem_of_getElem? (i := 14) rfl))))
theorem cd_173_262 : mt_cd 173 262 = some (.iaload) := mt_cd_of (q := (262, .iaload, 1)) mq_173 ci_173 (List.mem_append_right _ (List.mem_append_right _ (List.mem_append_left _ (show _ ∈ my_173_2 from List.mem_of_getElem? (i := 15) rfl))))
theorem cd_173_263 : mt_cd 173 263 = some (.aload_n 0) := mt_cd_of (q := (263, .aload_n 0, 1)) mq_173 ci_173 (List.mem_append_right _ (List.mem_append_right _ (List.mem_append_left _ (show _ ∈ my_173_2 from List.mem_of_getElem? (i := 16) rfl))))
theorem cd_173_264 : mt_cd 173 264 = some (.getfield 83) := mt_cd_of (q := (264, .getfield 83, 3)) mq_173 ci_173 (List.mem_append_right _ (List.mem_append_right _ (List.mem_append_left _ (show _ ∈ my_173_2 from List.mem_of_getElem? (i := 17) rfl))))
theorem cd_173_267 : mt_cd 173 267 = some (.iload_n 1) := mt_cd_of (q := (267, .iload_n 1, 1)) mq_173 ci_173 (List.mem_append_right _ (List.mem_append_right _ (List.mem_append_left _ (show _ ∈ my_173_2 from List.mem_of_getElem? (i := 18) rfl))))
theorem cd_173_268 : mt_cd 173 268 = some (.iaload) := mt_cd_of (q := (268, .iaload, 1)) mq_173 ci_173 (List.mem_append_right _ (List.mem_append_right _ (List.mem_append_left _ (show _ ∈ my_173_2 from List.mem_of_getElem? (i := 19) rfl))))
theorem cd_173_269 : mt_cd 173 269 = some (.aload_n 0) := mt_cd_of (q := (269, .aload_n 0, 1)) mq_173 ci_173 (List.mem_append_right _ (List.mem_append_right _ (List.mem_append_left _ (show _ ∈ my_173_2 from List.mem_of_getElem? (i := 20) rfl))))
theorem cd_173_270 : mt_cd 173 270 = some (.getfield 86) := mt_cd_of (q := (270, .getfield 86, 3)) mq_173 ci_173 (List.mem_append_right _ (List.mem_append_right _ (List.mem_append_left _ (show _ ∈ my_173_2 from List.mem_of_getElem? (i := 21) rfl))))
theorem cd_173_273 : mt_cd 173 273 = some (.iload_n 1) := mt_cd_of (q := (273, .iload_n 1, 1)) mq_173 ci_173 (List.mem_append_right _ (List.mem_append_right _ (List.mem_append_left _ (show _ ∈ my_173_2 from List.mem_of_getElem? (i := 22) rfl))))
theorem cd_173_274 : mt_cd 173 274 = some (.iaload) := mt_cd_of (q := (274, .iaload, 1)) mq_173 ci_173 (List.mem_append_right _ (List.mem_append_right _ (List.mem_append_left _ (show _ ∈ my_173_2 from List.mem_of_getElem? (i := 23) rfl))))
theorem cd_173_275 : mt_cd 173 275 = some (.lload 5) := mt_cd_of (q := (275, .lload 5, 2)) mq_173 ci_173 (List.mem_append_right _ (List.mem_append_right _ (List.mem_append_left _ (show _ ∈ my_173_2 from List.mem_of_getElem? (i := 24) rfl))))
theorem cd_173_277 : mt_cd 173 277 = some (.invokevirtual 499) := mt_cd_of (q := (277, .invokevirtual 499, 3)) mq_173 ci_173 (List.mem_append_right _ (List.mem_append_right _ (List.mem_append_left _ (show _ ∈ my_173_2 from List.mem_of_getElem? (i := 25) rfl))))
theorem cd_173_280 : mt_cd 173 280 = some (.goto 70) := mt_cd_of (q := (280, .goto 70, 3)) mq_173 ci_173 (List.mem_append_right _ (List.mem_append_right _ (List.mem_append_left _ (show _ ∈ my_173_2 from List.mem_of_getElem? (i := 26) rfl))))
theorem cd_173_283 : mt_cd 173 283 = some (.iconst 4) := mt_cd_of (q := (283, .iconst 4, 1)) mq_173 ci_173 (List.mem_append_right _ (List.mem_append_right _ (List.mem_append_left _ (show _ ∈ my_173_2 from List.mem_of_getElem? (i := 27) rfl))))
theorem cd_173_284 : mt_cd 173 284 = some (.aload_n 0) := mt_cd_of (q := (284, .aload_n 0, 1)) mq_173 ci_173 (List.mem_append_right _ (List.mem_append_right _ (List.mem_append_left _ (show _ ∈ my_173_2 from List.mem_of_getElem? (i := 28) rfl))))
theorem cd_173_285 : mt_cd 173 285 = some (.getfield 83) := mt_cd_of (q := (285, .getfield 83, 3)) mq_173 ci_173 (List.mem_append_right _ (List.mem_append_right _ (List.mem_append_left _ (show _ ∈ my_173_2 from List.mem_of_getElem? (i := 29) rfl))))
theorem cd_173_288 : mt_cd 173 288 = some (.iload_n 1) := mt_cd_of (q := (288, .iload_n 1, 1)) mq_173 ci_173 (List.mem_append_right _ (List.mem_append_right _ (List.mem_append_left _ (show _ ∈ my_173_2 from List.mem_of_getElem? (i := 30) rfl))))
theorem cd_173_289 : mt_cd 173 289 = some (.iaload) := mt_cd_of (q := (289, .iaload, 1)) mq_173 ci_173 (List.mem_append_right _ (List.mem_append_right _ (List.mem_append_left _ (show _ ∈ my_173_2 from List.mem_of_getElem? (i := 31) rfl))))
theorem cd_173_290 : mt_cd 173 290 = some (.imul) := mt_cd_of (q := (290, .imul, 1)) mq_173 ci_173 (List.mem_append_right _ (List.mem_append_right _ (List.mem_append_left _ (show _ ∈ my_173_2 from List.mem_of_getElem? (i := 32) rfl))))
theorem cd_173_291 : mt_cd 173 291 = some (.aload_n 0) := mt_cd_of (q := (291, .aload_n 0, 1)) mq_173 ci_173 (List.mem_append_right _ (List.mem_append_right _ (List.mem_append_left _ (show _ ∈ my_173_2 from List.mem_of_getElem? (i := 33) rfl))))
theorem cd_173_292 : mt_cd 173 292 = some (.getfield 86) := mt_cd_of (q := (292, .getfield 86, 3)) mq_173 ci_173 (List.mem_append_right _ (List.mem_append_right _ (List.mem_append_left _ (show _ ∈ my_173_2 from List.mem_of_getElem? (i := 34) rfl))))
theorem cd_173_295 : mt_cd 173 295 = some (.iload_n 1) := mt_cd_of (q := (295, .iload_n 1, 1)) mq_173 ci_173 (List.mem_append_right _ (List.mem_append_right _ (List.mem_append_left _ (show _ ∈ my_173_2 from List.mem_of_getElem? (i := 35) rfl))))
theorem cd_173_296 : mt_cd 173 296 = some (.iaload) := mt_cd_of (q := (296, .iaload, 1)) mq_173 ci_173 (List.mem_append_right _ (List.mem_append_right _ (List.mem_append_left _ (show _ ∈ my_173_2 from List.mem_of_getElem? (i := 36) rfl))))
theorem cd_173_297 : mt_cd 173 297 = some (.iadd) := mt_cd_of (q := (297, .iadd, 1)) mq_173 ci_173 (List.mem_append_right _ (List.mem_append_right _ (List.mem_append_left _ (show _ ∈ my_173_2 from List.mem_of_getElem? (i := 37) rfl))))
theorem cd_173_298 : mt_cd 173 298 = some (.istore 7) := mt_cd_of (q := (298, .istore 7, 2)) mq_173 ci_173 (List.mem_append_right _ (List.mem_append_right _ (List.mem_append_left _ (show _ ∈ my_173_2 from List.mem_of_getElem? (i := 38) rfl))))
theorem cd_173_300 : mt_cd 173 300 = some (.aload_n 0) := mt_cd_of (q := (300, .aload_n 0, 1)) mq_173 ci_173 (List.mem_append_right _ (List.mem_append_right _ (List.mem_append_left _ (show _ ∈ my_173_2 from List.mem_of_getElem? (i := 39) rfl))))
theorem cd_173_301 : mt_cd 173 301 = some (.getfield 445) := mt_cd_of (q := (301, .getfield 445, 3)) mq_173 ci_173 (List.mem_append_right _ (List.mem_append_right _ (List.mem_append_left _ (show _ ∈ my_173_2 from List.mem_of_getElem? (i := 40) rfl))))
theorem cd_173_304 : mt_cd 173 304 = some (.getfield 448) := mt_cd_of (q := (304, .getfield 448, 3)) mq_173 ci_173 (List.mem_append_right _ (List.mem_append_right _ (List.mem_append_left _ (show _ ∈ my_173_2 from List.mem_of_getElem? (i := 41) rfl))))
theorem cd_173_307 : mt_cd 173 307 = some (.iload 7) := mt_cd_of (q := (307, .iload 7, 2)) mq_173 ci_173 (List.mem_append_right _ (List.mem_append_right _ (List.mem_append_left _ (show _ ∈ my_173_2 from List.mem_of_getElem? (i := 42) rfl))))
theorem cd_173_309 : mt_cd 173 309 = some (.dup2) := mt_cd_of (q := (309, .dup2, 1)) mq_173 ci_173 (List.mem_append_right _ (List.mem_append_right _ (List.mem_append_left _ (show _ ∈ my_173_2 from List.mem_of_getElem? (i := 43) rfl))))
theorem cd_173_310 : mt_cd 173 310 = some (.laload) := mt_cd_of (q := (310, .laload, 1)) mq_173 ci_173 (List.mem_append_right _ (List.mem_append_right _ (List.mem_append_left _ (show _ ∈ my_173_2 from List.mem_of_getElem? (i := 44) rfl))))
theorem cd_173_311 : mt_cd 173 311 = some (.lload 5) := mt_cd_of (q := (311, .lload 5, 2)) mq_173 ci_173 (List.mem_append_right _ (List.mem_append_right _ (List.mem_append_left _ (show _ ∈ my_173_2 from List.mem_of_getElem? (i := 45) rfl))))
theorem cd_173_313 : mt_cd 173 313 = some (.ladd) := mt_cd_of (q := (313, .ladd, 1)) mq_173 ci_173 (List.mem_append_right _ (List.mem_append_right _ (List.mem_append_left _ (show _ ∈ my_173_2 from List.mem_of_getElem? (i := 46) rfl))))
theorem cd_173_314 : mt_cd 173 314 = some (.lastore) := mt_cd_of (q := (314, .lastore, 1)) mq_173 ci_173 (List.mem_append_right _ (List.mem_append_right _ (List.mem_append_left _ (show _ ∈ my_173_2 from List.mem_of_getElem? (i := 47) rfl))))
theorem cd_173_315 : mt_cd 173 315 = some (.aload_n 0) := mt_cd_of (q := (315, .aload_n 0, 1)) mq_173 ci_173 (List.mem_append_right _ (List.mem_append_right _ (List.mem_append_left _ (show _ ∈ my_173_2 from List.mem_of_getElem? (i := 48) rfl))))
theorem cd_173_316 : mt_cd 173 316 = some (.getfield 445) := mt_cd_of (q := (316, .getfield 445, 3)) mq_173 ci_173 (List.mem_append_right _ (List.mem_append_right _ (List.mem_append_left _ (show _ ∈ my_173_2 from List.mem_of_getElem? (i := 49) rfl))))
theorem cd_173_319 : mt_cd 173 319 = some (.getfield 448) := mt_cd_of (q := (319, .getfield 448, 3)) mq_173 ci_173 (List.mem_append_right _ (List.mem_append_right _ (List.mem_append_left _ (show _ ∈ my_173_2 from List.mem_of_getElem? (i := 50) rfl))))
theorem cd_173_322 : mt_cd 173 322 = some (.iload 7) := mt_cd_of (q := (322, .iload 7, 2)) mq_173 ci_173 (List.mem_append_right _ (List.mem_append_right _ (List.mem_append_left _ (show _ ∈ my_173_2 from List.mem_of_getElem? (i := 51) rfl))))
theorem cd_173_324 : mt_cd 173 324 = some (.laload) := mt_cd_of (q := (324, .laload, 1)) mq_173 ci_173 (List.mem_append_right _ (List.mem_append_right _ (List.mem_append_left _ (show _ ∈ my_173_2 from List.mem_of_getElem? (i := 52) rfl))))
theorem cd_173_325 : mt_cd 173 325 = some (.ldc2_w 437) := mt_cd_of (q := (325, .ldc2_w 437, 3)) mq_173 ci_173 (List.mem_append_right _ (List.mem_append_right _ (List.mem_append_left _ (show _ ∈ my_173_2 from List.mem_of_getElem? (i := 53) rfl))))
theorem cd_173_328 : mt_cd 173 328 = some (.lcmp) := mt_cd_of (q := (328, .lcmp, 1)) mq_173 ci_173 (List.mem_append_right _ (List.mem_append_right _ (List.mem_append_left _ (show _ ∈ my_173_2 from List.mem_of_getElem? (i := 54) rfl))))
theorem cd_173_329 : mt_cd 173 329 = some (.ifCond .gt 18) := mt_cd_of (q := (329, .ifCond .gt 18, 3)) mq_173 ci_173 (List.mem_append_right _ (List.mem_append_right _ (List.mem_append_left _ (show _ ∈ my_173_2 from List.mem_of_getElem? (i := 55) rfl))))
theorem cd_173_332 : mt_cd 173 332 = some (.aload_n 0) := mt_cd_of (q := (332, .aload_n 0, 1)) mq_173 ci_173 (List.mem_append_right _ (List.mem_append_right _ (List.mem_append_left _ (show _ ∈ my_173_2 from List.mem_of_getElem? (i := 56) rfl))))
theorem cd_173_333 : mt_cd 173 333 = some (.getfield 445) := mt_cd_of (q := (333, .getfield 445, 3)) mq_173 ci_173 (List.mem_append_right _ (List.mem_append_right _ (List.mem_append_left _ (show _ ∈ my_173_2 from List.mem_of_getElem? (i := 57) rfl))))
theorem cd_173_336 : mt_cd 173 336 = some (.getfield 448) := mt_cd_of (q := (336, .getfield 448, 3)) mq_173 ci_173 (List.mem_append_right _ (List.mem_append_right _ (List.mem_append_left _ (show _ ∈ my_173_2 from List.mem_of_getElem? (i := 58) rfl))))
theorem cd_173_339 : mt_cd 173 339 = some (.iload 7) := mt_cd_of (q := (339, .iload 7, 2)) mq_173 ci_173 (List.mem_append_right _ (List.mem_append_right _ (List.mem_append_left _ (show _ ∈ my_173_2 from List.mem_of_getElem? (i := 59) rfl))))
theorem cd_173_341 : mt_cd 173 341 = some (.laload) := mt_cd_of (q := (341, .laload, 1)) mq_173 ci_173 (List.mem_append_right _ (List.mem_append_right _ (List.mem_append_right _ (List.mem_append_left _ (show _ ∈ my_173_3 from List.mem_of_getElem? (i := 0) rfl)))))
theorem cd_173_342 : mt_cd 173 342 = some (.lconst 0) := mt_cd_of (q := (342, .lconst 0, 1)) mq_173 ci_173 (List.mem_append_right _ (List.mem_append_right _ (List.mem_append_right _ (List.mem_append_left _ (show _ ∈ my_173_3 from List.mem_of_getElem? (i := 1) rfl)))))
theorem cd_173_343 : mt_cd 173 343 = some (.lcmp) := mt_cd_of (q := (343, .lcmp, 1)) mq_173 ci_173 (List.mem_append_right _ (List.mem_append_right _ (List.mem_append_right _ (List.mem_append_left _ (show _ ∈ my_173_3 from List.mem_of_getElem? (i := 2) rfl)))))
theorem cd_173_344 : mt_cd 173 344 = some (.ifCond .ge 6) := mt_cd_of (q := (344, .ifCond .ge 6, 3)) mq_173 ci_173 (List.mem_append_right _ (List.mem_append_right _ (List.mem_append_right _ (List.mem_append_left _ (show _ ∈ my_173_3 from List.mem_of_getElem? (i := 3) rfl)))))
theorem cd_173_347 : mt_cd 173 347 = some (.bipush 6) := mt_cd_of (q := (347, .bipush 6, 2)) mq_173 ci_173 (List.mem_append_right _ (List.mem_append_right _ (List.mem_append_right _ (List.mem_append_left _ (show _ ∈ my_173_3 from List.mem_of_getElem? (i := 4) rfl)))))
theorem cd_173_349 : mt_cd 173 349 = some (.ireturn) := mt_cd_of (q := (349, .ireturn, 1)) mq_173 ci_173 (List.mem_append_right _ (List.mem_append_right _ (List.mem_append_right _ (List.mem_append_left _ (show _ ∈ my_173_3 from List.mem_of_getElem? (i := 5) rfl)))))
theorem cd_173_350 : mt_cd 173 350 = some (.aload_n 0) := mt_cd_of (q := (350, .aload_n 0, 1)) mq_173 ci_173 (List.mem_append_right _ (List.mem_append_right _ (List.mem_append_right _ (List.mem_append_left _ (show _ ∈ my_173_3 from List.mem_of_getElem? (i := 6) rfl)))))
theorem cd_173_351 : mt_cd 173 351 = some (.getfield 445) := mt_cd_of (q := (351, .getfield 445, 3)) mq_173 ci_173 (List.mem_append_right _ (List.mem_append_right _ (List.mem_append_right _ (List.mem_append_left _ (show _ ∈ my_173_3 from List.mem_of_getElem? (i := 7) rfl)))))
theorem cd_173_354 : mt_cd 173 354 = some (.aload_n 0) := mt_cd_of (q := (354, .aload_n 0, 1)) mq_173 ci_173 (List.mem_append_right _ (List.mem_append_right _ (List.mem_append_right _ (List.mem_append_left _ (show _ ∈ my_173_3 from List.mem_of_getElem? (i := 8) rfl)))))
theorem cd_173_355 : mt_cd 173 355 = some (.getfield 98) := mt_cd_of (q := (355, .getfield 98, 3)) mq_173 ci_173 (List.mem_append_right _ (List.mem_append_right _ (List.mem_append_right _ (List.mem_append_left _ (show _ ∈ my_173_3 from List.mem_of_getElem? (i := 9) rfl)))))
theorem cd_173_358 : mt_cd 173 358 = some (.iload_n 1) := mt_cd_of (q := (358, .iload_n 1, 1)) mq_173 ci_173 (List.mem_append_right _ (List.mem_append_right _ (List.mem_append_right _ (List.mem_append_left _ (show _ ∈ my_173_3 from List.mem_of_getElem? (i := 10) rfl)))))
theorem cd_173_359 : mt_cd 173 359 = some (.iaload) := mt_cd_of (q := (359, .iaload, 1)) mq_173 ci_173 (List.mem_append_right _ (List.mem_append_right _ (List.mem_append_right _ (List.mem_append_left _ (show _ ∈ my_173_3 from List.mem_of_getElem? (i := 11) rfl)))))
theorem cd_173_360 : mt_cd 173 360 = some (.putfield 496) := mt_cd_of (q := (360, .putfield 496, 3)) mq_173 ci_173 (List.mem_append_right _ (List.mem_append_right _ (List.mem_append_right _ (List.mem_append_left _ (show _ ∈ my_173_3 from List.mem_of_getElem? (i := 12) rfl)))))
theorem cd_173_363 : mt_cd 173 363 = some (.goto 235) := mt_cd_of (q := (363, .goto 235, 3)) mq_173 ci_173 (List.mem_append_right _ (List.mem_append_right _ (List.mem_append_right _ (List.mem_append_left _ (show _ ∈ my_173_3 from List.mem_of_getElem? (i := 13) rfl)))))
theorem cd_173_366 : mt_cd 173 366 = some (.aload_n 0) := mt_cd_of (q := (366, .aload_n 0, 1)) mq_173 ci_173 (List.mem_append_right _ (List.mem_append_right _ (List.mem_append_right _ (List.mem_append_left _ (show _ ∈ my_173_3 from List.mem_of_getElem? (i := 14) rfl)))))
theorem cd_173_367 : mt_cd 173 367 = some (.aload_n 0) := mt_cd_of (q := (367, .aload_n 0, 1)) mq_173 ci_173 (List.mem_append_right _ (List.mem_append_right _ (List.mem_append_right _ (List.mem_append_left _ (show _ ∈ my_173_3 from List.mem_of_getElem? (i := 15) rfl)))))
theorem cd_173_368 : mt_cd 173 368 = some (.getfield 89) := mt_cd_of (q := (368, .getfield 89, 3)) mq_173 ci_173 (List.mem_append_right _ (List.mem_append_right _ (List.mem_append_right _ (List.mem_append_left _ (show _ ∈ my_173_3 from List.mem_of_getElem? (i := 16) rfl)))))
theorem cd_173_371 : mt_cd 173 371 = some (.iload_n 1) := mt_cd_of (q := (371, .iload_n 1, 1)) mq_173 ci_173 (List.mem_append_right _ (List.mem_append_right _ (List.mem_append_right _ (List.mem_append_left _ (show _ ∈ my_173_3 from List.mem_of_getElem? (i := 17) rfl)))))
theorem cd_173_372 : mt_cd 173 372 = some (.iaload) := mt_cd_of (q := (372, .iaload, 1)) mq_173 ci_173 (List.mem_append_right _ (List.mem_append_right _ (List.mem_append_right _ (List.mem_append_left _ (show _ ∈ my_173_3 from List.mem_of_getElem? (i := 18) rfl)))))
theorem cd_173_373 : mt_cd 173 373 = some (.invokevirtual 477) := mt_cd_of (q := (373, .invokevirtual 477, 3)) mq_173 ci_173 (List.mem_append_right _ (List.mem_append_right _ (List.mem_append_right _ (List.mem_append_left _ (show _ ∈ my_173_3 from List.mem_of_getElem? (i := 19) rfl)))))
theorem cd_173_376 : mt_cd 173 376 = some (.istore_n 2) := mt_cd_of (q := (376, .istore_n 2, 1)) mq_173 ci_173 (List.mem_append_right _ (List.mem_append_right _ (List.mem_append_right _ (List.mem_append_left _ (show _ ∈ my_173_3 from List.mem_of_getElem? (i := 20) rfl)))))
theorem cd_173_377 : mt_cd 173 377 = some (.aload_n 0) := mt_cd_of (q := (377, .aload_n 0, 1)) mq_173 ci_173 (List.mem_append_right _ (List.mem_append_right _ (List.mem_append_right _ (List.mem_append_left _ (show _ ∈ my_173_3 from List.mem_of_getElem? (i := 21) rfl)))))
theorem cd_173_378 : mt_cd 173 378 = some (.getfield 441) := mt_cd_of (q := (378, .getfield 441, 3)) mq_173 ci_173 (List.mem_append_right _ (List.mem_append_right _ (List.mem_append_right _ (List.mem_append_left _ (show _ ∈ my_173_3 from List.mem_of_getElem? (i := 22) rfl)))))
theorem cd_173_381 : mt_cd 173 381 = some (.ifCond .eq 6) := mt_cd_of (q := (381, .ifCond .eq 6, 3)) mq_173 ci_173 (List.mem_append_right _ (List.mem_append_right _ (List.mem_append_right _ (List.mem_append_left _ (show _ ∈ my_173_3 from List.mem_of_getElem? (i := 23) rfl)))))
theorem cd_173_384 : mt_cd 173 384 = some (.bipush 6) := mt_cd_of (q := (384, .bipush 6, 2)) mq_173 ci_173 (List.mem_append_right _ (List.mem_append_right _ (List.mem_append_right _ (List.mem_append_left _ (show _ ∈ my_173_3 from List.mem_of_getElem? (i := 24) rfl)))))
theorem cd_173_386 : mt_cd 173 386 = some (.ireturn) := mt_cd_of (q := (386, .ireturn, 1)) mq_173 ci_173 (List.mem_append_right _ (List.mem_append_right _ (List.mem_append_right _ (List.mem_append_left _ (show _ ∈ my_173_3 from List.mem_of_getElem? (i := 25) rfl)))))
theorem cd_173_387 : mt_cd 173 387 = some (.aload_n 0) := mt_cd_of (q := (387, .aload_n 0, 1)) mq_173 ci_173 (List.mem_append_right _ (List.mem_append_right _ (List.mem_append_right _ (List.mem_append_left _ (show _ ∈ my_173_3 from List.mem_of_getElem? (i := 26) rfl)))))
theorem cd_173_388 : mt_cd 173 388 = some (.getfield 445) := mt_cd_of (q := (388, .getfield 445, 3)) mq_173 ci_173 (List.mem_append_right _ (List.mem_append_right _ (List.mem_append_right _ (List.mem_append_left _ (show _ ∈ my_173_3 from List.mem_of_getElem? (i := 27) rfl)))))
theorem cd_173_391 : mt_cd 173 391 = some (.iload_n 2) := mt_cd_of (q := (391, .iload_n 2, 1)) mq_173 ci_173 (List.mem_append_right _ (List.mem_append_right _ (List.mem_append_right _ (List.mem_append_left _ (show _ ∈ my_173_3 from List.mem_of_getElem? (i := 28) rfl)))))
theorem cd_173_392 : mt_cd 173 392 = some (.ifCond .eq 12) := mt_cd_of (q := (392, .ifCond .eq 12, 3)) mq_173 ci_173 (List.mem_append_right _ (List.mem_append_right _ (List.mem_append_right _ (List.mem_append_left _ (show _ ∈ my_173_3 from List.mem_of_getElem? (i := 29) rfl)))))
theorem cd_173_395 : mt_cd 173 395 = some (.aload_n 0) := mt_cd_of (q := (395, .aload_n 0, 1)) mq_173 ci_173 (List.mem_append_right _ (List.mem_append_right _ (List.mem_append_right _ (List.mem_append_left _ (show _ ∈ my_173_3 from List.mem_of_getElem? (i := 30) rfl)))))
theorem cd_173_396 : mt_cd 173 396 = some (.getfield 80) := mt_cd_of (q := (396, .getfield 80, 3)) mq_173 ci_173 (List.mem_append_right _ (List.mem_append_right _ (List.mem_append_right _ (List.mem_append_left _ (show _ ∈ my_173_3 from List.mem_of_getElem? (i := 31) rfl)))))
theorem cd_173_399 : mt_cd 173 399 = some (.iload_n 1) := mt_cd_of (q := (399, .iload_n 1, 1)) mq_173 ci_173 (List.mem_append_right _ (List.mem_append_right _ (List.mem_append_right _ (List.mem_append_left _ (show _ ∈ my_173_3 from List.mem_of_getElem? (i := 32) rfl)))))
theorem cd_173_400 : mt_cd 173 400 = some (.iaload) := mt_cd_of (q := (400, .iaload, 1)) mq_173 ci_173 (List.mem_append_right _ (List.mem_append_right _ (List.mem_append_right _ (List.mem_append_left _ (show _ ∈ my_173_3 from List.mem_of_getElem? (i := 33) rfl)))))
theorem cd_173_401 : mt_cd 173 401 = some (.goto 9) := mt_cd_of (q := (401, .goto 9, 3)) mq_173 ci_173 (List.mem_append_right _ (List.mem_append_right _ (List.mem_append_right _ (List.mem_append_left _ (show _ ∈ my_173_3 from List.mem_of_getElem? (i := 34) rfl)))))
theorem cd_173_404 : mt_cd 173 404 = some (.aload_n 0) := mt_cd_of (q := (404, .aload_n 0, 1)) mq_173 ci_173 (List.mem_append_right _ (List.mem_append_right _ (List.mem_append_right _ (List.mem_append_left _ (show _ ∈ my_173_3 from List.mem_of_getElem? (i := 35) rfl)))))
theorem cd_173_405 : mt_cd 173 405 = some (.getfield 83) := mt_cd_of (q := (405, .getfield 83, 3)) mq_173 ci_173 (List.mem_append_right _ (List.mem_append_right _ (List.mem_append_right _ (List.mem_append_left _ (show _ ∈ my_173_3 from List.mem_of_getElem? (i := 36) rfl)))))
theorem cd_173_408 : mt_cd 173 408 = some (.iload_n 1) := mt_cd_of (q := (408, .iload_n 1, 1)) mq_173 ci_173 (List.mem_append_right _ (List.mem_append_right _ (List.mem_append_right _ (List.mem_append_left _ (show _ ∈ my_173_3 from List.mem_of_getElem? (i := 37) rfl)))))
theorem cd_173_409 : mt_cd 173 409 = some (.iaload) := mt_cd_of (q := (409, .iaload, 1)) mq_173 ci_173 (List.mem_append_right _ (List.mem_append_right _ (List.mem_append_right _ (List.mem_append_left _ (show _ ∈ my_173_3 from List.mem_of_getElem? (i := 38) rfl)))))
theorem cd_173_410 : mt_cd 173 410 = some (.putfield 496) := mt_cd_of (q := (410, .putfield 496, 3)) mq_173 ci_173 (List.mem_append_right _ (List.mem_append_right _ (List.mem_append_right _ (List.mem_append_left _ (show _ ∈ my_173_3 from List.mem_of_getElem? (i := 39) rfl)))))
theorem cd_173_413 : mt_cd 173 413 = some (.goto 185) := mt_cd_of (q := (413, .goto 185, 3)) mq_173 ci_173 (List.mem_append_right _ (List.mem_append_right _ (List.mem_append_right _ (List.mem_append_left _ (show _ ∈ my_173_3 from List.mem_of_getElem? (i := 40) rfl)))))
theorem cd_173_416 : mt_cd 173 416 = some (.aload_n 0) := mt_cd_of (q := (416, .aload_n 0, 1)) mq_173 ci_173 (List.mem_append_right _ (List.mem_append_right _ (List.mem_append_right _ (List.mem_append_left _ (show _ ∈ my_173_3 from List.mem_of_getElem? (i := 41) rfl)))))
theorem cd_173_417 : mt_cd 173 417 = some (.getfield 474) := mt_cd_of (q := (417, .getfield 474, 3)) mq_173 ci_173 (List.mem_append_right _ (List.mem_append_right _ (List.mem_append_right _ (List.mem_append_left _ (show _ ∈ my_173_3 from List.mem_of_getElem? (i := 42) rfl)))))
theorem cd_173_420 : mt_cd 173 420 = some (.aload_n 0) := mt_cd_of (q := (420, .aload_n 0, 1)) mq_173 ci_173 (List.mem_append_right _ (List.mem_append_right _ (List.mem_append_right _ (List.mem_append_left _ (show _ ∈ my_173_3 from List.mem_of_getElem? (i := 43) rfl)))))
theorem cd_173_421 : mt_cd 173 421 = some (.getfield 101) := mt_cd_of (q := (421, .getfield 101, 3)) mq_173 ci_173 (List.mem_append_right _ (List.mem_append_right _ (List.mem_append_right _ (List.mem_append_left _ (show _ ∈ my_173_3 from List.mem_of_getElem? (i := 44) rfl)))))
theorem cd_173_424 : mt_cd 173 424 = some (.iload_n 1) := mt_cd_of (q := (424, .iload_n 1, 1)) mq_173 ci_173 (List.mem_append_right _ (List.mem_append_right _ (List.mem_append_right _ (List.mem_append_left _ (show _ ∈ my_173_3 from List.mem_of_getElem? (i := 45) rfl)))))
theorem cd_173_425 : mt_cd 173 425 = some (.laload) := mt_cd_of (q := (425, .laload, 1)) mq_173 ci_173 (List.mem_append_right _ (List.mem_append_right _ (List.mem_append_right _ (List.mem_append_left _ (show _ ∈ my_173_3 from List.mem_of_getElem? (i := 46) rfl)))))
theorem cd_173_426 : mt_cd 173 426 = some (.lcmp) := mt_cd_of (q := (426, .lcmp, 1)) mq_173 ci_173 (List.mem_append_right _ (List.mem_append_right _ (List.mem_append_right _ (List.mem_append_left _ (show _ ∈ my_173_3 from List.mem_of_getElem? (i := 47) rfl)))))
theorem cd_173_427 : mt_cd 173 427 = some (.ifCond .ge 5) := mt_cd_of (q := (427, .ifCond .ge 5, 3)) mq_173 ci_173 (List.mem_append_right _ (List.mem_append_right _ (List.mem_append_right _ (List.mem_append_left _ (show _ ∈ my_173_3 from List.mem_of_getElem? (i := 48) rfl)))))
theorem cd_173_430 : mt_cd 173 430 = some (.iconst 0) := mt_cd_of (q := (430, .iconst 0, 1)) mq_173 ci_173 (List.mem_append_right _ (List.mem_append_right _ (List.mem_append_right _ (List.mem_append_left _ (show _ ∈ my_173_3 from List.mem_of_getElem? (i := 49) rfl)))))
theorem cd_173_431 : mt_cd 173 431 = some (.ireturn) := mt_cd_of (q := (431, .ireturn, 1)) mq_173 ci_173 (List.mem_append_right _ (List.mem_append_right _ (List.mem_append_right _ (List.mem_append_left _ (show _ ∈ my_173_3 from List.mem_of_getElem? (i := 50) rfl)))))
theorem cd_173_432 : mt_cd 173 432 = some (.aload_n 0) := mt_cd_of (q := (432, .aload_n 0, 1)) mq_173 ci_173 (List.mem_append_right _ (List.mem_append_right _ (List.mem_append_right _ (List.mem_append_left _ (show _ ∈ my_173_3 from List.mem_of_getElem? (i := 51) rfl)))))
theorem cd_173_433 : mt_cd 173 433 = some (.getfield 101) := mt_cd_of (q := (433, .getfield 101, 3)) mq_173 ci_173 (List.mem_append_right _ (List.mem_append_right _ (List.mem_append_right _ (List.mem_append_left _ (show _ ∈ my_173_3 from List.mem_of_getElem? (i := 52) rfl)))))
theorem cd_173_436 : mt_cd 173 436 = some (.iload_n 1) := mt_cd_of (q := (436, .iload_n 1, 1)) mq_173 ci_173 (List.mem_append_right _ (List.mem_append_right _ (List.mem_append_right _ (List.mem_append_left _ (show _ ∈ my_173_3 from List.mem_of_getElem? (i := 53) rfl)))))
theorem cd_173_437 : mt_cd 173 437 = some (.laload) := mt_cd_of (q := (437, .laload, 1)) mq_173 ci_173 (List.mem_append_right _ (List.mem_append_right _ (List.mem_append_right _ (List.mem_append_left _ (show _ ∈ my_173_3 from List.mem_of_getElem? (i := 54) rfl)))))
theorem cd_173_438 : mt_cd 173 438 = some (.aload_n 0) := mt_cd_of (q := (438, .aload_n 0, 1)) mq_173 ci_173 (List.mem_append_right _ (List.mem_append_right _ (List.mem_append_right _ (List.mem_append_left _ (show _ ∈ my_173_3 from List.mem_of_getElem? (i := 55) rfl)))))
theorem cd_173_439 : mt_cd 173 439 = some (.getfield 471) := mt_cd_of (q := (439, .getfield 471, 3)) mq_173 ci_173 (List.mem_append_right _ (List.mem_append_right _ (List.mem_append_right _ (List.mem_append_left _ (show _ ∈ my_173_3 from List.mem_of_getElem? (i := 56) rfl)))))
theorem cd_173_442 : mt_cd 173 442 = some (.lcmp) := mt_cd_of (q := (442, .lcmp, 1)) mq_173 ci_173 (List.mem_append_right _ (List.mem_append_right _ (List.mem_append_right _ (List.mem_append_left _ (show _ ∈ my_173_3 from List.mem_of_getElem? (i := 57) rfl)))))
theorem cd_173_443 : mt_cd 173 443 = some (.ifCond .le 5) := mt_cd_of (q := (443, .ifCond .le 5, 3)) mq_173 ci_173 (List.mem_append_right _ (List.mem_append_right _ (List.mem_append_right _ (List.mem_append_left _ (show _ ∈ my_173_3 from List.mem_of_getElem? (i := 58) rfl)))))
theorem cd_173_446 : mt_cd 173 446 = some (.iconst 3) := mt_cd_of (q := (446, .iconst 3, 1)) mq_173 ci_173 (List.mem_append_right _ (List.mem_append_right _ (List.mem_append_right _ (List.mem_append_left _ (show _ ∈ my_173_3 from List.mem_of_getElem? (i := 59) rfl)))))
theorem cd_173_447 : mt_cd 173 447 = some (.ireturn) := mt_cd_of (q := (447, .ireturn, 1)) mq_173 ci_173 (List.mem_append_right _ (List.mem_append_right _ (List.mem_append_right _ (List.mem_append_right _ (List.mem_append_left _ (show _ ∈ my_173_4 from List.mem_of_getElem? (i := 0) rfl))))))
theorem cd_173_448 : mt_cd 173 448 = some (.aload_n 0) := mt_cd_of (q := (448, .aload_n 0, 1)) mq_173 ci_173 (List.mem_append_right _ (List.mem_append_right _ (List.mem_append_right _ (List.mem_append_right _ (List.mem_append_left _ (show _ ∈ my_173_4 from List.mem_of_getElem? (i := 1) rfl))))))
theorem cd_173_449 : mt_cd 173 449 = some (.getfield 445) := mt_cd_of (q := (449, .getfield 445, 3)) mq_173 ci_173 (List.mem_append_right _ (List.mem_append_right _ (List.mem_append_right _ (List.mem_append_right _ (List.mem_append_left _ (show _ ∈ my_173_4 from List.mem_of_getElem? (i := 2) rfl))))))
theorem cd_173_452 : mt_cd 173 452 = some (.aload_n 0) := mt_cd_of (q := (452, .aload_n 0, 1)) mq_173 ci_173 (List.mem_append_right _ (List.mem_append_right _ (List.mem_append_right _ (List.mem_append_right _ (List.mem_append_left _ (show _ ∈ my_173_4 from List.mem_of_getElem? (i := 3) rfl))))))
theorem cd_173_453 : mt_cd 173 453 = some (.getfield 98) := mt_cd_of (q := (453, .getfield 98, 3)) mq_173 ci_173 (List.mem_append_right _ (List.mem_append_right _ (List.mem_append_right _ (List.mem_append_right _ (List.mem_append_left _ (show _ ∈ my_173_4 from List.mem_of_getElem? (i := 4) rfl))))))
theorem cd_173_456 : mt_cd 173 456 = some (.iload_n 1) := mt_cd_of (q := (456, .iload_n 1, 1)) mq_173 ci_173 (List.mem_append_right _ (List.mem_append_right _ (List.mem_append_right _ (List.mem_append_right _ (List.mem_append_left _ (show _ ∈ my_173_4 from List.mem_of_getElem? (i := 5) rfl))))))
theorem cd_173_457 : mt_cd 173 457 = some (.iaload) := mt_cd_of (q := (457, .iaload, 1)) mq_173 ci_173 (List.mem_append_right _ (List.mem_append_right _ (List.mem_append_right _ (List.mem_append_right _ (List.mem_append_left _ (show _ ∈ my_173_4 from List.mem_of_getElem? (i := 6) rfl))))))
theorem cd_173_458 : mt_cd 173 458 = some (.putfield 496) := mt_cd_of (q := (458, .putfield 496, 3)) mq_173 ci_173 (List.mem_append_right _ (List.mem_append_right _ (List.mem_append_right _ (List.mem_append_right _ (List.mem_append_left _ (show _ ∈ my_173_4 from List.mem_of_getElem? (i := 7) rfl))))))
theorem cd_173_461 : mt_cd 173 461 = some (.goto 137) := mt_cd_of (q := (461, .goto 137, 3)) mq_173 ci_173 (List.mem_append_right _ (List.mem_append_right _ (List.mem_append_right _ (List.mem_append_right _ (List.mem_append_left _ (show _ ∈ my_173_4 from List.mem_of_getElem? (i := 8) rfl))))))
theorem cd_173_464 : mt_cd 173 464 = some (.aload_n 0) := mt_cd_of (q := (464, .aload_n 0, 1)) mq_173 ci_173 (List.mem_append_right _ (List.mem_append_right _ (List.mem_append_right _ (List.mem_append_right _ (List.mem_append_left _ (show _ ∈ my_173_4 from List.mem_of_getElem? (i := 9) rfl))))))
theorem cd_173_465 : mt_cd 173 465 = some (.aload_n 0) := mt_cd_of (q := (465, .aload_n 0, 1)) mq_173 ci_173 (List.mem_append_right _ (List.mem_append_right _ (List.mem_append_right _ (List.mem_append_right _ (List.mem_append_left _ (show _ ∈ my_173_4 from List.mem_of_getElem? (i := 10) rfl))))))
theorem cd_173_466 : mt_cd 173 466 = some (.getfield 89) := mt_cd_of (q := (466, .getfield 89, 3)) mq_173 ci_173 (List.mem_append_right _ (List.mem_append_right _ (List.mem_append_right _ (List.mem_append_right _ (List.mem_append_left _ (show _ ∈ my_173_4 from List.mem_of_getElem? (i := 11) rfl))))))
theorem cd_173_469 : mt_cd 173 469 = some (.iload_n 1) := mt_cd_of (q := (469, .iload_n 1, 1)) mq_173 ci_173 (List.mem_append_right _ (List.mem_append_right _ (List.mem_append_right _ (List.mem_append_right _ (List.mem_append_left _ (show _ ∈ my_173_4 from List.mem_of_getElem? (i := 12) rfl))))))
theorem cd_173_470 : mt_cd 173 470 = some (.iaload) := mt_cd_of (q := (470, .iaload, 1)) mq_173 ci_173 (List.mem_append_right _ (List.mem_append_right _ (List.mem_append_right _ (List.mem_append_right _ (List.mem_append_left _ (show _ ∈ my_173_4 from List.mem_of_getElem? (i := 13) rfl))))))
theorem cd_173_471 : mt_cd 173 471 = some (.invokevirtual 451) := mt_cd_of (q := (471, .invokevirtual 451, 3)) mq_173 ci_173 (List.mem_append_right _ (List.mem_append_right _ (List.mem_append_right _ (List.mem_append_right _ (List.mem_append_left _ (show _ ∈ my_173_4 from List.mem_of_getElem? (i := 14) rfl))))))
theorem cd_173_474 : mt_cd 173 474 = some (.lstore_n 2) := mt_cd_of (q := (474, .lstore_n 2, 1)) mq_173 ci_173 (List.mem_append_right _ (List.mem_append_right _ (List.mem_append_right _ (List.mem_append_right _ (List.mem_append_left _ (show _ ∈ my_173_4 from List.mem_of_getElem? (i := 15) rfl))))))
theorem cd_173_475 : mt_cd 173 475 = some (.aload_n 0) := mt_cd_of (q := (475, .aload_n 0, 1)) mq_173 ci_173 (List.mem_append_right _ (List.mem_append_right _ (List.mem_append_right _ (List.mem_append_right _ (List.mem_append_left _ (show _ ∈ my_173_4 from List.mem_of_getElem? (i := 16) rfl))))))
theorem cd_173_476 : mt_cd 173 476 = some (.getfield 441) := mt_cd_of (q := (476, .getfield 441, 3)) mq_173 ci_173 (List.mem_append_right _ (List.mem_append_right _ (List.mem_append_right _ (List.mem_append_right _ (List.mem_append_left _ (show _ ∈ my_173_4 from List.mem_of_getElem? (i := 17) rfl))))))
theorem cd_173_479 : mt_cd 173 479 = some (.ifCond .eq 6) := mt_cd_of (q := (479, .ifCond .eq 6, 3)) mq_173 ci_173 (List.mem_append_right _ (List.mem_append_right _ (List.mem_append_right _ (List.mem_append_right _ (List.mem_append_left _ (show _ ∈ my_173_4 from List.mem_of_getElem? (i := 18) rfl))))))
theorem cd_173_482 : mt_cd 173 482 = some (.bipush 6) := mt_cd_of (q := (482, .bipush 6, 2)) mq_173 ci_173 (List.mem_append_right _ (List.mem_append_right _ (List.mem_append_right _ (List.mem_append_right _ (List.mem_append_left _ (show _ ∈ my_173_4 from List.mem_of_getElem? (i := 19) rfl))))))
theorem cd_173_484 : mt_cd 173 484 = some (.ireturn) := mt_cd_of (q := (484, .ireturn, 1)) mq_173 ci_173 (List.mem_append_right _ (List.mem_append_right _ (List.mem_append_right _ (List.mem_append_right _ (List.mem_append_left _ (show _ ∈ my_173_4 from List.mem_of_getElem? (i := 20) rfl))))))
theorem cd_173_485 : mt_cd 173 485 = some (.aload_n 0) := mt_cd_of (q := (485, .aload_n 0, 1)) mq_173 ci_173 (List.mem_append_right _ (List.mem_append_right _ (List.mem_append_right _ (List.mem_append_right _ (List.mem_append_left _ (show _ ∈ my_173_4 from List.mem_of_getElem? (i := 21) rfl))))))
theorem cd_173_486 : mt_cd 173 486 = some (.getfield 445) := mt_cd_of (q := (486, .getfield 445, 3)) mq_173 ci_173 (List.mem_append_right _ (List.mem_append_right _ (List.mem_append_right _ (List.mem_append_right _ (List.mem_append_left _ (show _ ∈ my_173_4 from List.mem_of_getElem? (i := 22) rfl))))))
theorem cd_173_489 : mt_cd 173 489 = some (.getfield 465) := mt_cd_of (q := (489, .getfield 465, 3)) mq_173 ci_173 (List.mem_append_right _ (List.mem_append_right _ (List.mem_append_right _ (List.mem_append_right _ (List.mem_append_left _ (show _ ∈ my_173_4 from List.mem_of_getElem? (i := 23) rfl))))))
theorem cd_173_492 : mt_cd 173 492 = some (.aload_n 0) := mt_cd_of (q := (492, .aload_n 0, 1)) mq_173 ci_173 (List.mem_append_right _ (List.mem_append_right _ (List.mem_append_right _ (List.mem_append_right _ (List.mem_append_left _ (show _ ∈ my_173_4 from List.mem_of_getElem? (i := 24) rfl))))))
theorem cd_173_493 : mt_cd 173 493 = some (.getfield 80) := mt_cd_of (q := (493, .getfield 80, 3)) mq_173 ci_173 (List.mem_append_right _ (List.mem_append_right _ (List.mem_append_right _ (List.mem_append_right _ (List.mem_append_left _ (show _ ∈ my_173_4 from List.mem_of_getElem? (i := 25) rfl))))))
theorem cd_173_496 : mt_cd 173 496 = some (.iload_n 1) := mt_cd_of (q := (496, .iload_n 1, 1)) mq_173 ci_173 (List.mem_append_right _ (List.mem_append_right _ (List.mem_append_right _ (List.mem_append_right _ (List.mem_append_left _ (show _ ∈ my_173_4 from List.mem_of_getElem? (i := 26) rfl))))))
theorem cd_173_497 : mt_cd 173 497 = some (.iaload) := mt_cd_of (q := (497, .iaload, 1)) mq_173 ci_173 (List.mem_append_right _ (List.mem_append_right _ (List.mem_append_right _ (List.mem_append_right _ (List.mem_append_left _ (show _ ∈ my_173_4 from List.mem_of_getElem? (i := 27) rfl))))))
theorem cd_173_498 : mt_cd 173 498 = some (.baload) := mt_cd_of (q := (498, .baload, 1)) mq_173 ci_173 (List.mem_append_right _ (List.mem_append_right _ (List.mem_append_right _ (List.mem_append_right _ (List.mem_append_left _ (show _ ∈ my_173_4 from List.mem_of_getElem? (i := 28) rfl))))))
theorem cd_173_499 : mt_cd 173 499 = some (.ifCond .eq 9) := mt_cd_of (q := (499, .ifCond .eq 9, 3)) mq_173 ci_173 (List.mem_append_right _ (List.mem_append_right _ (List.mem_append_right _ (List.mem_append_right _ (List.mem_append_left _ (show _ ∈ my_173_4 from List.mem_of_getElem? (i := 29) rfl))))))
theorem cd_173_502 : mt_cd 173 502 = some (.aload_n 0) := mt_cd_of (q := (502, .aload_n 0, 1)) mq_173 ci_173 (List.mem_append_right _ (List.mem_append_right _ (List.mem_append_right _ (List.mem_append_right _ (List.mem_append_left _ (show _ ∈ my_173_4 from List.mem_of_getElem? (i := 30) rfl))))))
theorem cd_173_503 : mt_cd 173 503 = some (.iconst 4) := mt_cd_of (q := (503, .iconst 4, 1)) mq_173 ci_173 (List.mem_append_right _ (List.mem_append_right _ (List.mem_append_right _ (List.mem_append_right _ (List.mem_append_left _ (show _ ∈ my_173_4 from List.mem_of_getElem? (i := 31) rfl))))))
theorem cd_173_504 : mt_cd 173 504 = some (.iload_n 1) := mt_cd_of (q := (504, .iload_n 1, 1)) mq_173 ci_173 (List.mem_append_right _ (List.mem_append_right _ (List.mem_append_right _ (List.mem_append_right _ (List.mem_append_left _ (show _ ∈ my_173_4 from List.mem_of_getElem? (i := 32) rfl))))))
theorem cd_173_505 : mt_cd 173 505 = some (.invokevirtual 502) := mt_cd_of (q := (505, .invokevirtual 502, 3)) mq_173 ci_173 (List.mem_append_right _ (List.mem_append_right _ (List.mem_append_right _ (List.mem_append_right _ (List.mem_append_left _ (show _ ∈ my_173_4 from List.mem_of_getElem? (i := 33) rfl))))))
theorem cd_173_508 : mt_cd 173 508 = some (.aload_n 0) := mt_cd_of (q := (508, .aload_n 0, 1)) mq_173 ci_173 (List.mem_append_right _ (List.mem_append_right _ (List.mem_append_right _ (List.mem_append_right _ (List.mem_append_left _ (show _ ∈ my_173_4 from List.mem_of_getElem? (i := 34) rfl))))))
theorem cd_173_509 : mt_cd 173 509 = some (.getfield 445) := mt_cd_of (q := (509, .getfield 445, 3)) mq_173 ci_173 (List.mem_append_right _ (List.mem_append_right _ (List.mem_append_right _ (List.mem_append_right _ (List.mem_append_left _ (show _ ∈ my_173_4 from List.mem_of_getElem? (i := 35) rfl))))))
theorem cd_173_512 : mt_cd 173 512 = some (.getfield 465) := mt_cd_of (q := (512, .getfield 465, 3)) mq_173 ci_173 (List.mem_append_right _ (List.mem_append_right _ (List.mem_append_right _ (List.mem_append_right _ (List.mem_append_left _ (show _ ∈ my_173_4 from List.mem_of_getElem? (i := 36) rfl))))))
theorem cd_173_515 : mt_cd 173 515 = some (.aload_n 0) := mt_cd_of (q := (515, .aload_n 0, 1)) mq_173 ci_173 (List.mem_append_right _ (List.mem_append_right _ (List.mem_append_right _ (List.mem_append_right _ (List.mem_append_left _ (show _ ∈ my_173_4 from List.mem_of_getElem? (i := 37) rfl))))))
theorem cd_173_516 : mt_cd 173 516 = some (.getfield 80) := mt_cd_of (q := (516, .getfield 80, 3)) mq_173 ci_173 (List.mem_append_right _ (List.mem_append_right _ (List.mem_append_right _ (List.mem_append_right _ (List.mem_append_left _ (show _ ∈ my_173_4 from List.mem_of_getElem? (i := 38) rfl))))))
theorem cd_173_519 : mt_cd 173 519 = some (.iload_n 1) := mt_cd_of (q := (519, .iload_n 1, 1)) mq_173 ci_173 (List.mem_append_right _ (List.mem_append_right _ (List.mem_append_right _ (List.mem_append_right _ (List.mem_append_left _ (show _ ∈ my_173_4 from List.mem_of_getElem? (i := 39) rfl))))))
theorem cd_173_520 : mt_cd 173 520 = some (.iaload) := mt_cd_of (q := (520, .iaload, 1)) mq_173 ci_173 (List.mem_append_right _ (List.mem_append_right _ (List.mem_append_right _ (List.mem_append_right _ (List.mem_append_left _ (show _ ∈ my_173_4 from List.mem_of_getElem? (i := 40) rfl))))))
theorem cd_173_521 : mt_cd 173 521 = some (.iconst 1) := mt_cd_of (q := (521, .iconst 1, 1)) mq_173 ci_173 (List.mem_append_right _ (List.mem_append_right _ (List.mem_append_right _ (List.mem_append_right _ (List.mem_append_left _ (show _ ∈ my_173_4 from List.mem_of_getElem? (i := 41) rfl))))))
theorem cd_173_522 : mt_cd 173 522 = some (.bastore) := mt_cd_of (q := (522, .bastore, 1)) mq_173 ci_173 (List.mem_append_right _ (List.mem_append_right _ (List.mem_append_right _ (List.mem_append_right _ (List.mem_append_left _ (show _ ∈ my_173_4 from List.mem_of_getElem? (i := 42) rfl))))))
theorem cd_173_523 : mt_cd 173 523 = some (.aload_n 0) := mt_cd_of (q := (523, .aload_n 0, 1)) mq_173 ci_173 (List.mem_append_right _ (List.mem_append_right _ (List.mem_append_right _ (List.mem_append_right _ (List.mem_append_left _ (show _ ∈ my_173_4 from List.mem_of_getElem? (i := 43) rfl))))))
theorem cd_173_524 : mt_cd 173 524 = some (.getfield 445) := mt_cd_of (q := (524, .getfield 445, 3)) mq_173 ci_173 (List.mem_append_right _ (List.mem_append_right _ (List.mem_append_right _ (List.mem_append_right _ (List.mem_append_left _ (show _ ∈ my_173_4 from List.mem_of_getElem? (i := 44) rfl))))))
theorem cd_173_527 : mt_cd 173 527 = some (.getfield 468) := mt_cd_of (q := (527, .getfield 468, 3)) mq_173 ci_173 (List.mem_append_right _ (List.mem_append_right _ (List.mem_append_right _ (List.mem_append_right _ (List.mem_append_left _ (show _ ∈ my_173_4 from List.mem_of_getElem? (i := 45) rfl))))))
theorem cd_173_530 : mt_cd 173 530 = some (.aload_n 0) := mt_cd_of (q := (530, .aload_n 0, 1)) mq_173 ci_173 (List.mem_append_right _ (List.mem_append_right _ (List.mem_append_right _ (List.mem_append_right _ (List.mem_append_left _ (show _ ∈ my_173_4 from List.mem_of_getElem? (i := 46) rfl))))))
theorem cd_173_531 : mt_cd 173 531 = some (.getfield 80) := mt_cd_of (q := (531, .getfield 80, 3)) mq_173 ci_173 (List.mem_append_right _ (List.mem_append_right _ (List.mem_append_right _ (List.mem_append_right _ (List.mem_append_left _ (show _ ∈ my_173_4 from List.mem_of_getElem? (i := 47) rfl))))))
theorem cd_173_534 : mt_cd 173 534 = some (.iload_n 1) := mt_cd_of (q := (534, .iload_n 1, 1)) mq_173 ci_173 (List.mem_append_right _ (List.mem_append_right _ (List.mem_append_right _ (List.mem_append_right _ (List.mem_append_left _ (show _ ∈ my_173_4 from List.mem_of_getElem? (i := 48) rfl))))))
theorem cd_173_535 : mt_cd 173 535 = some (.iaload) := mt_cd_of (q := (535, .iaload, 1)) mq_173 ci_173 (List.mem_append_right _ (List.mem_append_right _ (List.mem_append_right _ (List.mem_append_right _ (List.mem_append_left _ (show _ ∈ my_173_4 from List.mem_of_getElem? (i := 49) rfl))))))
theorem cd_173_536 : mt_cd 173 536 = some (.lload_n 2) := mt_cd_of (q := (536, .lload_n 2, 1)) mq_173 ci_173 (List.mem_append_right _ (List.mem_append_right _ (List.mem_append_right _ (List.mem_append_right _ (List.mem_append_left _ (show _ ∈ my_173_4 from List.mem_of_getElem? (i := 50) rfl))))))
theorem cd_173_537 : mt_cd 173 537 = some (.lastore) := mt_cd_of (q := (537, .lastore, 1)) mq_173 ci_173 (List.mem_append_right _ (List.mem_append_right _ (List.mem_append_right _ (List.mem_append_right _ (List.mem_append_left _ (show _ ∈ my_173_4 from List.mem_of_getElem? (i := 51) rfl))))))
theorem cd_173_538 : mt_cd 173 538 = some (.aload_n 0) := mt_cd_of (q := (538, .aload_n 0, 1)) mq_173 ci_173 (List.mem_append_right _ (List.mem_append_right _ (List.mem_append_right _ (List.mem_append_right _ (List.mem_append_left _ (show _ ∈ my_173_4 from List.mem_of_getElem? (i := 52) rfl))))))
theorem cd_173_539 : mt_cd 173 539 = some (.getfield 445) := mt_cd_of (q := (539, .getfield 445, 3)) mq_173 ci_173 (List.mem_append_right _ (List.mem_append_right _ (List.mem_append_right _ (List.mem_append_right _ (List.mem_append_left _ (show _ ∈ my_173_4 from List.mem_of_getElem? (i := 53) rfl))))))
theorem cd_173_542 : mt_cd 173 542 = some (.aload_n 0) := mt_cd_of (q := (542, .aload_n 0, 1)) mq_173 ci_173 (List.mem_append_right _ (List.mem_append_right _ (List.mem_append_right _ (List.mem_append_right _ (List.mem_append_left _ (show _ ∈ my_173_4 from List.mem_of_getElem? (i := 54) rfl))))))
theorem cd_173_543 : mt_cd 173 543 = some (.getfield 98) := mt_cd_of (q := (543, .getfield 98, 3)) mq_173 ci_173 (List.mem_append_right _ (List.mem_append_right _ (List.mem_append_right _ (List.mem_append_right _ (List.mem_append_left _ (show _ ∈ my_173_4 from List.mem_of_getElem? (i := 55) rfl))))))
theorem cd_173_546 : mt_cd 173 546 = some (.iload_n 1) := mt_cd_of (q := (546, .iload_n 1, 1)) mq_173 ci_173 (List.mem_append_right _ (List.mem_append_right _ (List.mem_append_right _ (List.mem_append_right _ (List.mem_append_left _ (show _ ∈ my_173_4 from List.mem_of_getElem? (i := 56) rfl))))))
theorem cd_173_547 : mt_cd 173 547 = some (.iaload) := mt_cd_of (q := (547, .iaload, 1)) mq_173 ci_173 (List.mem_append_right _ (List.mem_append_right _ (List.mem_append_right _ (List.mem_append_right _ (List.mem_append_left _ (show _ ∈ my_173_4 from List.mem_of_getElem? (i := 57) rfl))))))
theorem cd_173_548 : mt_cd 173 548 = some (.putfield 496) := mt_cd_of (q := (548, .putfield 496, 3)) mq_173 ci_173 (List.mem_append_right _ (List.mem_append_right _ (List.mem_append_right _ (List.mem_append_right _ (List.mem_append_left _ (show _ ∈ my_173_4 from List.mem_of_getElem? (i := 58) rfl))))))
theorem cd_173_551 : mt_cd 173 551 = some (.goto 47) := mt_cd_of (q := (551, .goto 47, 3)) mq_173 ci_173 (List.mem_append_right _ (List.mem_append_right _ (List.mem_append_right _ (List.mem_append_right _ (List.mem_append_left _ (show _ ∈ my_173_4 from List.mem_of_getElem? (i := 59) rfl))))))
theorem cd_173_554 : mt_cd 173 554 = some (.aload_n 0) := mt_cd_of (q := (554, .aload_n 0, 1)) mq_173 ci_173 (List.mem_append_right _ (List.mem_append_right _ (List.mem_append_right _ (List.mem_append_right _ (List.mem_append_right _ ((show _ ∈ my_173_5 from List.mem_of_getElem? (i := 0) rfl)))))))
theorem cd_173_555 : mt_cd 173 555 = some (.aload_n 0) := mt_cd_of (q := (555, .aload_n 0, 1)) mq_173 ci_173 (List.mem_append_right _ (List.mem_append_right _ (List.mem_append_right _ (List.mem_append_right _ (List.mem_append_right _ ((show _ ∈ my_173_5 from List.mem_of_getElem? (i := 1) rfl)))))))
theorem cd_173_556 : mt_cd 173 556 = some (.getfield 89) := mt_cd_of (q := (556, .getfield 89, 3)) mq_173 ci_173 (List.mem_append_right _ (List.mem_append_right _ (List.mem_append_right _ (List.mem_append_right _ (List.mem_append_right _ ((show _ ∈ my_173_5 from List.mem_of_getElem? (i := 2) rfl)))))))
theorem cd_173_559 : mt_cd 173 559 = some (.iload_n 1) := mt_cd_of (q := (559, .iload_n 1, 1)) mq_173 ci_173 (List.mem_append_right _ (List.mem_append_right _ (List.mem_append_right _ (List.mem_append_right _ (List.mem_append_right _ ((show _ ∈ my_173_5 from List.mem_of_getElem? (i := 3) rfl)))))))
theorem cd_173_560 : mt_cd 173 560 = some (.iaload) := mt_cd_of (q := (560, .iaload, 1)) mq_173 ci_173 (List.mem_append_right _ (List.mem_append_right _ (List.mem_append_right _ (List.mem_append_right _ (List.mem_append_right _ ((show _ ∈ my_173_5 from List.mem_of_getElem? (i := 4) rfl)))))))
theorem cd_173_561 : mt_cd 173 561 = some (.invokevirtual 477) := mt_cd_of (q := (561, .invokevirtual 477, 3)) mq_173 ci_173 (List.mem_append_right _ (List.mem_append_right _ (List.mem_append_right _ (List.mem_append_right _ (List.mem_append_right _ ((show _ ∈ my_173_5 from List.mem_of_getElem? (i := 5) rfl)))))))
theorem cd_173_564 : mt_cd 173 564 = some (.istore_n 2) := mt_cd_of (q := (564, .istore_n 2, 1)) mq_173 ci_173 (List.mem_append_right _ (List.mem_append_right _ (List.mem_append_right _ (List.mem_append_right _ (List.mem_append_right _ ((show _ ∈ my_173_5 from List.mem_of_getElem? (i := 6) rfl)))))))
theorem cd_173_565 : mt_cd 173 565 = some (.aload_n 0) := mt_cd_of (q := (565, .aload_n 0, 1)) mq_173 ci_173 (List.mem_append_right _ (List.mem_append_right _ (List.mem_append_right _ (List.mem_append_right _ (List.mem_append_right _ ((show _ ∈ my_173_5 from List.mem_of_getElem? (i := 7) rfl)))))))
theorem cd_173_566 : mt_cd 173 566 = some (.getfield 441) := mt_cd_of (q := (566, .getfield 441, 3)) mq_173 ci_173 (List.mem_append_right _ (List.mem_append_right _ (List.mem_append_right _ (List.mem_append_right _ (List.mem_append_right _ ((show _ ∈ my_173_5 from List.mem_of_getElem? (i := 8) rfl)))))))
theorem cd_173_569 : mt_cd 173 569 = some (.ifCond .eq 6) := mt_cd_of (q := (569, .ifCond .eq 6, 3)) mq_173 ci_173 (List.mem_append_right _ (List.mem_append_right _ (List.mem_append_right _ (List.mem_append_right _ (List.mem_append_right _ ((show _ ∈ my_173_5 from List.mem_of_getElem? (i := 9) rfl)))))))
theorem cd_173_572 : mt_cd 173 572 = some (.bipush 6) := mt_cd_of (q := (572, .bipush 6, 2)) mq_173 ci_173 (List.mem_append_right _ (List.mem_append_right _ (List.mem_append_right _ (List.mem_append_right _ (List.mem_append_right _ ((show _ ∈ my_173_5 from List.mem_of_getElem? (i := 10) rfl)))))))
theorem cd_173_574 : mt_cd 173 574 = some (.ireturn) := mt_cd_of (q := (574, .ireturn, 1)) mq_173 ci_173 (List.mem_append_right _ (List.mem_append_right _ (List.mem_append_right _ (List.mem_append_right _ (List.mem_append_right _ ((show _ ∈ my_173_5 from List.mem_of_getElem? (i := 11) rfl)))))))
theorem cd_173_575 : mt_cd 173 575 = some (.iload_n 2) := mt_cd_of (q := (575, .iload_n 2, 1)) mq_173 ci_173 (List.mem_append_right _ (List.mem_append_right _ (List.mem_append_right _ (List.mem_append_right _ (List.mem_append_right _ ((show _ ∈ my_173_5 from List.mem_of_getElem? (i := 12) rfl)))))))
theorem cd_173_576 : mt_cd 173 576 = some (.ifCond .ne 9) := mt_cd_of (q := (576, .ifCond .ne 9, 3)) mq_173 ci_173 (List.mem_append_right _ (List.mem_append_right _ (List.mem_append_right _ (List.mem_append_right _ (List.mem_append_right _ ((show _ ∈ my_173_5 from List.mem_of_getElem? (i := 13) rfl)))))))
theorem cd_173_579 : mt_cd 173 579 = some (.aload_n 0) := mt_cd_of (q := (579, .aload_n 0, 1)) mq_173 ci_173 (List.mem_append_right _ (List.mem_append_right _ (List.mem_append_right _ (List.mem_append_right _ (List.mem_append_right _ ((show _ ∈ my_173_5 from List.mem_of_getElem? (i := 14) rfl)))))))
theorem cd_173_580 : mt_cd 173 580 = some (.iconst 5) := mt_cd_of (q := (580, .iconst 5, 1)) mq_173 ci_173 (List.mem_append_right _ (List.mem_append_right _ (List.mem_append_right _ (List.mem_append_right _ (List.mem_append_right _ ((show _ ∈ my_173_5 from List.mem_of_getElem? (i := 15) rfl)))))))
theorem cd_173_581 : mt_cd 173 581 = some (.iload_n 1) := mt_cd_of (q := (581, .iload_n 1, 1)) mq_173 ci_173 (List.mem_append_right _ (List.mem_append_right _ (List.mem_append_right _ (List.mem_append_right _ (List.mem_append_right _ ((show _ ∈ my_173_5 from List.mem_of_getElem? (i := 16) rfl)))))))
theorem cd_173_582 : mt_cd 173 582 = some (.invokevirtual 502) := mt_cd_of (q := (582, .invokevirtual 502, 3)) mq_173 ci_173 (List.mem_append_right _ (List.mem_append_right _ (List.mem_append_right _ (List.mem_append_right _ (List.mem_append_right _ ((show _ ∈ my_173_5 from List.mem_of_getElem? (i := 17) rfl)))))))
theorem cd_173_585 : mt_cd 173 585 = some (.aload_n 0) := mt_cd_of (q := (585, .aload_n 0, 1)) mq_173 ci_173 (List.mem_append_right _ (List.mem_append_right _ (List.mem_append_right _ (List.mem_append_right _ (List.mem_append_right _ ((show _ ∈ my_173_5 from List.mem_of_getElem? (i := 18) rfl)))))))
theorem cd_173_586 : mt_cd 173 586 = some (.getfield 445) := mt_cd_of (q := (586, .getfield 445, 3)) mq_173 ci_173 (List.mem_append_right _ (List.mem_append_right _ (List.mem_append_right _ (List.mem_append_right _ (List.mem_append_right _ ((show _ ∈ my_173_5 from List.mem_of_getElem? (i := 19) rfl)))))))
theorem cd_173_589 : mt_cd 173 589 = some (.aload_n 0) := mt_cd_of (q := (589, .aload_n 0, 1)) mq_173 ci_173 (List.mem_append_right _ (List.mem_append_right _ (List.mem_append_right _ (List.mem_append_right _ (List.mem_append_right _ ((show _ ∈ my_173_5 from List.mem_of_getElem? (i := 20) rfl)))))))
theorem cd_173_590 : mt_cd 173 590 = some (.getfield 98) := mt_cd_of (q := (590, .getfield 98, 3)) mq_173 ci_173 (List.mem_append_right _ (List.mem_append_right _ (List.mem_append_right _ (List.mem_append_right _ (List.mem_append_right _ ((show _ ∈ my_173_5 from List.mem_of_getElem? (i := 21) rfl)))))))
theorem cd_173_593 : mt_cd 173 593 = some (.iload_n 1) := mt_cd_of (q := (593, .iload_n 1, 1)) mq_173 ci_173 (List.mem_append_right _ (List.mem_append_right _ (List.mem_append_right _ (List.mem_append_right _ (List.mem_append_right _ ((show _ ∈ my_173_5 from List.mem_of_getElem? (i := 22) rfl)))))))
theorem cd_173_594 : mt_cd 173 594 = some (.iaload) := mt_cd_of (q := (594, .iaload, 1)) mq_173 ci_173 (List.mem_append_right _ (List.mem_append_right _ (List.mem_append_right _ (List.mem_append_right _ (List.mem_append_right _ ((show _ ∈ my_173_5 from List.mem_of_getElem? (i := 23) rfl)))))))
theorem cd_173_595 : mt_cd 173 595 = some (.putfield 496) := mt_cd_of (q := (595, .putfield 496, 3)) mq_173 ci_173 (List.mem_append_right _ (List.mem_append_right _ (List.mem_append_right _ (List.mem_append_right _ (List.mem_append_right _ ((show _ ∈ my_173_5 from List.mem_of_getElem? (i := 24) rfl)))))))
theorem cd_173_598 : mt_cd 173 598 = some (.aload_n 0) := mt_cd_of (q := (598, .aload_n 0, 1)) mq_173 ci_173 (List.mem_append_right _ (List.mem_append_right _ (List.mem_append_right _ (List.mem_append_right _ (List.mem_append_right _ ((show _ ∈ my_173_5 from List.mem_of_getElem? (i := 25) rfl)))))))
theorem cd_173_599 : mt_cd 173 599 = some (.iconst 1) := mt_cd_of (q := (599, .iconst 1, 1)) mq_173 ci_173 (List.mem_append_right _ (List.mem_append_right _ (List.mem_append_right _ (List.mem_append_right _ (List.mem_append_right _ ((show _ ∈ my_173_5 from List.mem_of_getElem? (i := 26) rfl)))))))
theorem cd_173_600 : mt_cd 173 600 = some (.putfield 506) := mt_cd_of (q := (600, .putfield 506, 3)) mq_173 ci_173 (List.mem_append_right _ (List.mem_append_right _ (List.mem_append_right _ (List.mem_append_right _ (List.mem_append_right _ ((show _ ∈ my_173_5 from List.mem_of_getElem? (i := 27) rfl)))))))
theorem cd_173_603 : mt_cd 173 603 = some (.goto (-603)) := mt_cd_of (q := (603, .goto (-603), 3)) mq_173 ci_173 (List.mem_append_right _ (List.mem_append_right _ (List.mem_append_right _ (List.mem_append_right _ (List.mem_append_right _ ((show _ ∈ my_173_5 from List.mem_of_getElem? (i := 28) rfl)))))))
theorem b_173_0 {d : Nat} {Q : (Option Value ⊕ Nat) → mi_H → Prop} (n sl : Nat) (f : Nat → mi_C) {l1 : Nat} {o2 : Option Value} {o3 : Option Value} {o4 : Option Value} {o5 : Option Value} {o6 : Option Value} {o7 : Option Value} {o8 : Option Value} {fs9 : List Value} {x12 : Nat} {fs14 : List Value} {x17 : Int32} {fs19 : List Value} {fs24 : List Value} {x27 : Nat} (m29 i29 : Nat) (g29 : Nat → Int32) {t33 : Nat} (h10 : f l1 = .inr (12, fs9)) (h11 : l1 < n) (h13 : fs9[43]? = some (.ref x12)) (h15 : f x12 = .inr (13, fs14)) (h16 : x12 < n) (h18 : fs14[0]? = some (.int x17)) (h20 : f l1 = .inr (12, fs19)) (h21 : l1 < n) (h22 : 46 < fs19.length) (h23 : mi_fk .boolean (.int 0) = true) (h25 : (va_up f l1 (.inr (12, fs19.set 46 (.int 0)))) l1 = .inr (12, fs24)) (h26 : l1 < n) (h28 : fs24[12]? = some (.ref x27)) (h30 : (va_up f l1 (.inr (12, fs19.set 46 (.int 0)))) x27 = .inl (0, m29, .inl g29)) (h31 : x27 < n ∨ x27 = mi_SC) (h32 : mi_ix x17 m29 i29) (h34 : mi_ts 19 535 0 5 #[37, 108, 108, 347, 397, 445] ((g29 i29) : Int32).toInt = some t33) (h35 : mi_W d 173 t33 [some (.ref l1), some (.int x17), o3, o4, o5, o6, o7, o8] [] (n, sl, (va_up f l1 (.inr (12, fs19.set 46 (.int 0))))) Q) : mi_W d 173 0 [some (.ref l1), o2, o3, o4, o5, o6, o7, o8] [] (n, sl, f) Q := by
  refine w_aload_n cd_173_0 rfl ?_
  refine w_getfield cd_173_1 (show mt_f 12 445 = some (12, 43) by decide +kernel) h10 h11 h13 ?_
  refine w_getfield cd_173_4 (show mt_f 12 496 = some (13, 0) by decide +kernel) h15 h16 h18 ?_
  refine w_istore_n (ls' := [some (.ref l1), some (.int x17), o3, o4, o5, o6, o7, o8]) cd_173_7 (Nat.le_of_ble_eq_true rfl) rfl ?_
  refine w_aload_n cd_173_8 rfl ?_
  refine w_iconst (v := 0) cd_173_9 (by decide) ?_
  refine w_putfield (w := .int 0) cd_173_10 (show mt_f 12 441 = some (12, 46) by decide +kernel) h20 h21 ⟨h22, h23, Or.inl (by decide)⟩ ?_
  refine w_aload_n cd_173_13 rfl ?_
  refine w_getfield cd_173_14 (show mt_f 12 77 = some (12, 12) by decide +kernel) h25 h26 h28 ?_
  refine w_iload_n cd_173_17 rfl ?_
  refine w_iaload cd_173_18 h30 h31 h32 ?_
  exact w_tableswitch cd_173_19 h34 h35
theorem b_173_56 {d : Nat} {Q : (Option Value ⊕ Nat) → mi_H → Prop} (n sl : Nat) (f : Nat → mi_C) {l1 : Nat} {l2 : Int32} {o3 : Option Value} {o4 : Option Value} {o5 : Option Value} {o6 : Option Value} {o7 : Option Value} {o8 : Option Value} (h9 : mi_W d 173 58 [some (.ref l1), some (.int l2), some (.int 0), o4, o5, o6, o7, o8] [] (n, sl, f) Q) : mi_W d 173 56 [some (.ref l1), some (.int l2), o3, o4, o5, o6, o7, o8] [] (n, sl, f) Q := by
  refine w_iconst (v := 0) cd_173_56 (by decide) ?_
  refine w_istore_n (ls' := [some (.ref l1), some (.int l2), some (.int 0), o4, o5, o6, o7, o8]) cd_173_57 (Nat.le_of_ble_eq_true rfl) rfl ?_
  exact h9
theorem b_173_58 {d : Nat} {Q : (Option Value ⊕ Nat) → mi_H → Prop} (n sl : Nat) (f : Nat → mi_C) {l1 : Nat} {l2 : Int32} {l3 : Int32} {o4 : Option Value} {o5 : Option Value} {o6 : Option Value} {o7 : Option Value} {o8 : Option Value} (h9 : 32 ≤ l3 → mi_W d 173 84 [some (.ref l1), some (.int l2), some (.int l3), o4, o5, o6, o7, o8] [] (n, sl, f) Q) (h10 : ¬ (32 ≤ l3) → mi_W d 173 64 [some (.ref l1), some (.int l2), some (.int l3), o4, o5, o6, o7, o8] [] (n, sl, f) Q) : mi_W d 173 58 [some (.ref l1), some (.int l2), some (.int l3), o4, o5, o6, o7, o8] [] (n, sl, f) Q := by
  refine w_iload_n cd_173_58 rfl ?_
  refine w_bipush (v := 32) cd_173_59 (by decide) ?_
  exact w_if_icmpge cd_173_61 (by decide) h9 h10
theorem b_173_64 {d : Nat} {Q : (Option Value ⊕ Nat) → mi_H → Prop} (n sl : Nat) (f : Nat → mi_C) {l1 : Nat} {l2 : Int32} {l3 : Int32} {o4 : Option Value} {o5 : Option Value} {o6 : Option Value} {o7 : Option Value} {o8 : Option Value} {fs9 : List Value} {x12 : Nat} {fs14 : List Value} {x17 : Nat} (m19 i19 : Nat) (g19 : Nat → Int64) (h10 : f l1 = .inr (12, fs9)) (h11 : l1 < n) (h13 : fs9[43]? = some (.ref x12)) (h15 : f x12 = .inr (13, fs14)) (h16 : x12 < n) (h18 : fs14[2]? = some (.ref x17)) (h20 : f x17 = .inl (3, m19, .inr (.inl g19))) (h21 : x17 < n) (h22 : mi_ix l3 m19 i19) (h23 : ¬ (lg_cmp (g19 i19) 0) = (0 : Int32) → mi_W d 173 84 [some (.ref l1), some (.int l2), some (.int l3), o4, o5, o6, o7, o8] [] (n, sl, f) Q) (h24 : ¬ (¬ (lg_cmp (g19 i19) 0) = (0 : Int32)) → mi_W d 173 78 [some (.ref l1), some (.int l2), some (.int l3), o4, o5, o6, o7, o8] [] (n, sl, f) Q) : mi_W d 173 64 [some (.ref l1), some (.int l2), some (.int l3), o4, o5, o6, o7, o8] [] (n, sl, f) Q := by
  refine w_aload_n cd_173_64 rfl ?_
  refine w_getfield cd_173_65 (show mt_f 12 445 = some (12, 43) by decide +kernel) h10 h11 h13 ?_
  refine w_getfield cd_173_68 (show mt_f 12 448 = some (13, 2) by decide +kernel) h15 h16 h18 ?_
  refine w_iload_n cd_173_71 rfl ?_
  refine w_laload cd_173_72 h20 h21 h22 ?_
  refine w_lconst (lv := 0) cd_173_73 (by decide) ?_
  refine w_lcmp cd_173_74 ?_
  exact w_ifne cd_173_75 (by decide) h23 h24
theorem b_173_78 {d : Nat} {Q : (Option Value ⊕ Nat) → mi_H → Prop} (n sl : Nat) (f : Nat → mi_C) {l1 : Nat} {l2 : Int32} {l3 : Int32} {o4 : Option Value} {o5 : Option Value} {o6 : Option Value} {o7 : Option Value} {o8 : Option Value} (h9 : mi_W d 173 58 [some (.ref l1), some (.int l2), some (.int (l3 + 1)), o4, o5, o6, o7, o8] [] (n, sl, f) Q) : mi_W d 173 78 [some (.ref l1), some (.int l2), some (.int l3), o4, o5, o6, o7, o8] [] (n, sl, f) Q := by
  refine w_iinc (v := 1) (ls' := [some (.ref l1), some (.int l2), some (.int (l3 + 1)), o4, o5, o6, o7, o8]) cd_173_78 rfl (by decide) rfl ?_
  exact w_goto cd_173_81 (by decide) h9
theorem b_173_84 {d : Nat} {Q : (Option Value ⊕ Nat) → mi_H → Prop} (n sl : Nat) (f : Nat → mi_C) {l1 : Nat} {l2 : Int32} {l3 : Int32} {o4 : Option Value} {o5 : Option Value} {o6 : Option Value} {o7 : Option Value} {o8 : Option Value} (h9 : ¬ l3 = 32 → mi_W d 173 92 [some (.ref l1), some (.int l2), some (.int l3), o4, o5, o6, o7, o8] [] (n, sl, f) Q) (h10 : ¬ (¬ l3 = 32) → mi_W d 173 90 [some (.ref l1), some (.int l2), some (.int l3), o4, o5, o6, o7, o8] [] (n, sl, f) Q) : mi_W d 173 84 [some (.ref l1), some (.int l2), some (.int l3), o4, o5, o6, o7, o8] [] (n, sl, f) Q := by
  refine w_iload_n cd_173_84 rfl ?_
  refine w_bipush (v := 32) cd_173_85 (by decide) ?_
  exact w_if_icmpne cd_173_87 (by decide) h9 h10
theorem b_173_90 {d : Nat} {Q : (Option Value ⊕ Nat) → mi_H → Prop} (n sl : Nat) (f : Nat → mi_C) {l1 : Nat} {l2 : Int32} {l3 : Int32} {o4 : Option Value} {o5 : Option Value} {o6 : Option Value} {o7 : Option Value} {o8 : Option Value} (h9 : Q (.inl (some (.int 0))) (n, sl, f)) : mi_W d 173 90 [some (.ref l1), some (.int l2), some (.int l3), o4, o5, o6, o7, o8] [] (n, sl, f) Q := by
  refine w_iconst (v := 0) cd_173_90 (by decide) ?_
  exact w_ireturn_i cd_173_91 (by decide +kernel) h9
theorem b_173_92 {d : Nat} {Q : (Option Value ⊕ Nat) → mi_H → Prop} (n sl : Nat) (f : Nat → mi_C) {l1 : Nat} {l2 : Int32} {l3 : Int32} {o4 : Option Value} {o5 : Option Value} {o6 : Option Value} {o7 : Option Value} {o8 : Option Value} {fs9 : List Value} {x12 : Nat} {fs14 : List Value} {x17 : Nat} (m19 i19 : Nat) (g19 : Nat → Int64) {fs23 : List Value} (h10 : f l1 = .inr (12, fs9)) (h11 : l1 < n) (h13 : fs9[43]? = some (.ref x12)) (h15 : f x12 = .inr (13, fs14)) (h16 : x12 < n) (h18 : fs14[2]? = some (.ref x17)) (h20 : f x17 = .inl (3, m19, .inr (.inl g19))) (h21 : x17 < n) (h22 : mi_ix l3 m19 i19) (h24 : f l1 = .inr (12, fs23)) (h25 : l1 < n) (h26 : mi_W d 174 0 (mi_en 6 [.ref l1, .int (l3 / 4), .int (l3 / 4), .int (l3 - l3 / 4 * 4), .long (g19 i19)]) [] (n, sl, f) (mi_Kc d 173 111 [some (.ref l1), some (.int l2), some (.int l3), o4, o5, o6, o7, o8] [] Q)) : mi_W (d + 1) 173 92 [some (.ref l1), some (.int l2), some (.int l3), o4, o5, o6, o7, o8] [] (n, sl, f) Q := by
  refine w_aload_n cd_173_92 rfl ?_
  refine w_iload_n cd_173_93 rfl ?_
  refine w_iconst (v := 4) cd_173_94 (by decide) ?_
  refine w_idiv cd_173_95 (by decide) ?_
  refine w_iload_n cd_173_96 rfl ?_
  refine w_iconst (v := 4) cd_173_97 (by decide) ?_
  refine w_idiv cd_173_98 (by decide) ?_
  refine w_iload_n cd_173_99 rfl ?_
  refine w_iconst (v := 4) cd_173_100 (by decide) ?_
  refine w_irem cd_173_101 (by decide) ?_
  refine w_aload_n cd_173_102 rfl ?_
  refine w_getfield cd_173_103 (show mt_f 12 445 = some (12, 43) by decide +kernel) h10 h11 h13 ?_
  refine w_getfield cd_173_106 (show mt_f 12 448 = some (13, 2) by decide +kernel) h15 h16 h18 ?_
  refine w_iload_n cd_173_109 rfl ?_
  refine w_laload cd_173_110 h20 h21 h22 ?_
  exact w_invokevirtual cd_173_111 (show mt_m 12 499 = some (174, 0) by decide +kernel) (rest := []) rfl (as := [.ref l1, .int (l3 / 4), .int (l3 / 4), .int (l3 - l3 / 4 * 4), .long (g19 i19)]) rfl h24 (Or.inl h25) ⟨Nat.le_of_ble_eq_true rfl, Nat.le_of_ble_eq_true rfl, Nat.le_of_ble_eq_true rfl⟩ h26
theorem b_173_114 {d : Nat} {Q : (Option Value ⊕ Nat) → mi_H → Prop} (n sl : Nat) (f : Nat → mi_C) {l1 : Nat} {l2 : Int32} {l3 : Int32} {o4 : Option Value} {o5 : Option Value} {o6 : Option Value} {o7 : Option Value} {o8 : Option Value} {fs9 : List Value} {x12 : Nat} {fs14 : List Value} {x17 : Nat} (m19 i19 : Nat) (g19 : Nat → Int64) (h10 : f l1 = .inr (12, fs9)) (h11 : l1 < n) (h13 : fs9[43]? = some (.ref x12)) (h15 : f x12 = .inr (13, fs14)) (h16 : x12 < n) (h18 : fs14[2]? = some (.ref x17)) (h20 : f x17 = .inl (3, m19, .inr (.inl g19))) (h21 : x17 < n) (h22 : mi_ix l3 m19 i19) (h23 : mi_W d 173 598 [some (.ref l1), some (.int l2), some (.int l3), o4, o5, o6, o7, o8] [] (n, sl, (va_up f x17 (.inl (3, m19, .inr (.inl (vp_updL g19 i19 0)))))) Q) : mi_W d 173 114 [some (.ref l1), some (.int l2), some (.int l3), o4, o5, o6, o7, o8] [] (n, sl, f) Q := by
  refine w_aload_n cd_173_114 rfl ?_
  refine w_getfield cd_173_115 (show mt_f 12 445 = some (12, 43) by decide +kernel) h10 h11 h13 ?_
  refine w_getfield cd_173_118 (show mt_f 12 448 = some (13, 2) by decide +kernel) h15 h16 h18 ?_
  refine w_iload_n cd_173_121 rfl ?_
  refine w_lconst (lv := 0) cd_173_122 (by decide) ?_
  refine w_lastore cd_173_123 h20 h21 h22 ?_
  exact w_goto cd_173_124 (by decide) h23
theorem b_173_127 {d : Nat} {Q : (Option Value ⊕ Nat) → mi_H → Prop} (n sl : Nat) (f : Nat → mi_C) {l1 : Nat} {l2 : Int32} {o3 : Option Value} {o4 : Option Value} {o5 : Option Value} {o6 : Option Value} {o7 : Option Value} {o8 : Option Value} {fs9 : List Value} {x12 : Nat} (m14 i14 : Nat) (g14 : Nat → Int32) {fs18 : List Value} (h10 : f l1 = .inr (12, fs9)) (h11 : l1 < n) (h13 : fs9[16]? = some (.ref x12)) (h15 : f x12 = .inl (0, m14, .inl g14)) (h16 : x12 < n ∨ x12 = mi_SC) (h17 : mi_ix l2 m14 i14) (h19 : f l1 = .inr (12, fs18)) (h20 : l1 < n) (h21 : mi_W d 175 0 (mi_en 2 [.ref l1, .int (g14 i14)]) [] (n, sl, f) (mi_Kc d 173 134 [some (.ref l1), some (.int l2), o3, o4, o5, o6, o7, o8] [] Q)) : mi_W (d + 1) 173 127 [some (.ref l1), some (.int l2), o3, o4, o5, o6, o7, o8] [] (n, sl, f) Q := by
  refine w_aload_n cd_173_127 rfl ?_
  refine w_aload_n cd_173_128 rfl ?_
  refine w_getfield cd_173_129 (show mt_f 12 89 = some (12, 16) by decide +kernel) h10 h11 h13 ?_
  refine w_iload_n cd_173_132 rfl ?_
  refine w_iaload cd_173_133 h15 h16 h17 ?_
  exact w_invokevirtual cd_173_134 (show mt_m 12 451 = some (175, 0) by decide +kernel) (rest := []) rfl (as := [.ref l1, .int (g14 i14)]) rfl h19 (Or.inl h20) ⟨Nat.le_of_ble_eq_true rfl, Nat.le_of_ble_eq_true rfl, Nat.le_of_ble_eq_true rfl⟩ h21
theorem b_173_137 {d : Nat} {Q : (Option Value ⊕ Nat) → mi_H → Prop} (n sl : Nat) (f : Nat → mi_C) {l1 : Nat} {l2 : Int32} {o3 : Option Value} {o4 : Option Value} {o5 : Option Value} {o6 : Option Value} {o7 : Option Value} {o8 : Option Value} {s9 : Int64} {fs10 : List Value} {x13 : Int32} (h11 : f l1 = .inr (12, fs10)) (h12 : l1 < n) (h14 : fs10[46]? = some (.int x13)) (h15 : x13 = (0 : Int32) → mi_W d 173 148 [some (.ref l1), some (.int l2), some (.long s9), none, o5, o6, o7, o8] [] (n, sl, f) Q) (h16 : ¬ (x13 = (0 : Int32)) → mi_W d 173 145 [some (.ref l1), some (.int l2), some (.long s9), none, o5, o6, o7, o8] [] (n, sl, f) Q) : mi_W d 173 137 [some (.ref l1), some (.int l2), o3, o4, o5, o6, o7, o8] [.long s9] (n, sl, f) Q := by
  refine w_lstore_n (ls' := [some (.ref l1), some (.int l2), some (.long s9), none, o5, o6, o7, o8]) cd_173_137 (Nat.le_of_ble_eq_true rfl) rfl ?_
  refine w_aload_n cd_173_138 rfl ?_
  refine w_getfield cd_173_139 (show mt_f 12 441 = some (12, 46) by decide +kernel) h11 h12 h14 ?_
  exact w_ifeq cd_173_142 (by decide) h15 h16
theorem b_173_145 {d : Nat} {Q : (Option Value ⊕ Nat) → mi_H → Prop} (n sl : Nat) (f : Nat → mi_C) {l1 : Nat} {l2 : Int32} {l3 : Int64} {o4 : Option Value} {o5 : Option Value} {o6 : Option Value} {o7 : Option Value} (h8 : Q (.inl (some (.int 6))) (n, sl, f)) : mi_W d 173 145 [some (.ref l1), some (.int l2), some (.long l3), none, o4, o5, o6, o7] [] (n, sl, f) Q := by
  refine w_bipush (v := 6) cd_173_145 (by decide) ?_
  exact w_ireturn_i cd_173_147 (by decide +kernel) h8
theorem b_173_148 {d : Nat} {Q : (Option Value ⊕ Nat) → mi_H → Prop} (n sl : Nat) (f : Nat → mi_C) {l1 : Nat} {l2 : Int32} {l3 : Int64} {o4 : Option Value} {o5 : Option Value} {o6 : Option Value} {o7 : Option Value} (h8 : (0 : Int32) < (lg_cmp l3 0) → mi_W d 173 163 [some (.ref l1), some (.int l2), some (.long l3), none, o4, o5, o6, o7] [] (n, sl, f) Q) (h9 : ¬ ((0 : Int32) < (lg_cmp l3 0)) → mi_W d 173 154 [some (.ref l1), some (.int l2), some (.long l3), none, o4, o5, o6, o7] [] (n, sl, f) Q) : mi_W d 173 148 [some (.ref l1), some (.int l2), some (.long l3), none, o4, o5, o6, o7] [] (n, sl, f) Q := by
  refine w_lload_n cd_173_148 rfl ?_
  refine w_lconst (lv := 0) cd_173_149 (by decide) ?_
  refine w_lcmp cd_173_150 ?_
  exact w_ifgt cd_173_151 (by decide) h8 h9
theorem b_173_154 {d : Nat} {Q : (Option Value ⊕ Nat) → mi_H → Prop} (n sl : Nat) (f : Nat → mi_C) {l1 : Nat} {l2 : Int32} {l3 : Int64} {o4 : Option Value} {o5 : Option Value} {o6 : Option Value} {o7 : Option Value} {fs8 : List Value} (h9 : f l1 = .inr (12, fs8)) (h10 : l1 < n) (h11 : mi_W d 180 0 (mi_en 3 [.ref l1, .int 2, .int l2]) [] (n, sl, f) (mi_Kc d 173 157 [some (.ref l1), some (.int l2), some (.long l3), none, o4, o5, o6, o7] [] Q)) : mi_W (d + 1) 173 154 [some (.ref l1), some (.int l2), some (.long l3), none, o4, o5, o6, o7] [] (n, sl, f) Q := by
  refine w_aload_n cd_173_154 rfl ?_
  refine w_iconst (v := 2) cd_173_155 (by decide) ?_
  refine w_iload_n cd_173_156 rfl ?_
  exact w_invokevirtual cd_173_157 (show mt_m 12 502 = some (180, 0) by decide +kernel) (rest := []) rfl (as := [.ref l1, .int 2, .int l2]) rfl h9 (Or.inl h10) ⟨Nat.le_of_ble_eq_true rfl, Nat.le_of_ble_eq_true rfl, Nat.le_of_ble_eq_true rfl⟩ h11
theorem b_173_160 {d : Nat} {Q : (Option Value ⊕ Nat) → mi_H → Prop} (n sl : Nat) (f : Nat → mi_C) {l1 : Nat} {l2 : Int32} {l3 : Int64} {o4 : Option Value} {o5 : Option Value} {o6 : Option Value} {o7 : Option Value} (h8 : mi_W d 173 350 [some (.ref l1), some (.int l2), some (.long l3), none, o4, o5, o6, o7] [] (n, sl, f) Q) : mi_W d 173 160 [some (.ref l1), some (.int l2), some (.long l3), none, o4, o5, o6, o7] [] (n, sl, f) Q := by
  exact w_goto cd_173_160 (by decide) h8
theorem b_173_163 {d : Nat} {Q : (Option Value ⊕ Nat) → mi_H → Prop} (n sl : Nat) (f : Nat → mi_C) {l1 : Nat} {l2 : Int32} {l3 : Int64} {o4 : Option Value} {o5 : Option Value} {o6 : Option Value} {o7 : Option Value} {fs8 : List Value} {x11 : Nat} (m13 i13 : Nat) (g13 : Nat → Int32) {fs17 : List Value} {x20 : Nat} (m22 i22 : Nat) (g22 : Nat → Int32) {fs26 : List Value} {x29 : Nat} {fs31 : List Value} {x34 : Nat} (m36 i36 : Nat) (g36 : Nat → Int64) (h9 : f l1 = .inr (12, fs8)) (h10 : l1 < n) (h12 : fs8[13]? = some (.ref x11)) (h14 : f x11 = .inl (0, m13, .inl g13)) (h15 : x11 < n ∨ x11 = mi_SC) (h16 : mi_ix l2 m13 i13) (h18 : f l1 = .inr (12, fs17)) (h19 : l1 < n) (h21 : fs17[15]? = some (.ref x20)) (h23 : f x20 = .inl (0, m22, .inl g22)) (h24 : x20 < n ∨ x20 = mi_SC) (h25 : mi_ix l2 m22 i22) (h27 : f l1 = .inr (12, fs26)) (h28 : l1 < n) (h30 : fs26[43]? = some (.ref x29)) (h32 : f x29 = .inr (13, fs31)) (h33 : x29 < n) (h35 : fs31[2]? = some (.ref x34)) (h37 : f x34 = .inl (3, m36, .inr (.inl g36))) (h38 : x34 < n) (h39 : mi_ix ((4 * (g13 i13)) + (g22 i22)) m36 i36) (h40 : (0 : Int32) ≤ (lg_cmp l3 (g36 i36)) → mi_W d 173 199 [some (.ref l1), some (.int l2), some (.long l3), none, some (.int ((4 * (g13 i13)) + (g22 i22))), o5, o6, o7] [] (n, sl, f) Q) (h41 : ¬ ((0 : Int32) ≤ (lg_cmp l3 (g36 i36))) → mi_W d 173 195 [some (.ref l1), some (.int l2), some (.long l3), none, some (.int ((4 * (g13 i13)) + (g22 i22))), o5, o6, o7] [] (n, sl, f) Q) : mi_W d 173 163 [some (.ref l1), some (.int l2), some (.long l3), none, o4, o5, o6, o7] [] (n, sl, f) Q := by
  refine w_iconst (v := 4) cd_173_163 (by decide) ?_
  refine w_aload_n cd_173_164 rfl ?_
  refine w_getfield cd_173_165 (show mt_f 12 80 = some (12, 13) by decide +kernel) h9 h10 h12 ?_
  refine w_iload_n cd_173_168 rfl ?_
  refine w_iaload cd_173_169 h14 h15 h16 ?_
  refine w_imul cd_173_170 ?_
  refine w_aload_n cd_173_171 rfl ?_
  refine w_getfield cd_173_172 (show mt_f 12 86 = some (12, 15) by decide +kernel) h18 h19 h21 ?_
  refine w_iload_n cd_173_175 rfl ?_
  refine w_iaload cd_173_176 h23 h24 h25 ?_
  refine w_iadd cd_173_177 ?_
  refine w_istore (ls' := [some (.ref l1), some (.int l2), some (.long l3), none, some (.int ((4 * (g13 i13)) + (g22 i22))), o5, o6, o7]) cd_173_178 (Nat.le_of_ble_eq_true rfl) rfl ?_
  refine w_lload_n cd_173_180 rfl ?_
  refine w_aload_n cd_173_181 rfl ?_
  refine w_getfield cd_173_182 (show mt_f 12 445 = some (12, 43) by decide +kernel) h27 h28 h30 ?_
  refine w_getfield cd_173_185 (show mt_f 12 448 = some (13, 2) by decide +kernel) h32 h33 h35 ?_
  refine w_iload cd_173_188 rfl ?_
  refine w_laload cd_173_190 h37 h38 h39 ?_
  refine w_lcmp cd_173_191 ?_
  exact w_ifge cd_173_192 (by decide) h40 h41
theorem b_173_195 {d : Nat} {Q : (Option Value ⊕ Nat) → mi_H → Prop} (n sl : Nat) (f : Nat → mi_C) {l1 : Nat} {l2 : Int32} {l3 : Int64} {l4 : Int32} {o5 : Option Value} {o6 : Option Value} {o7 : Option Value} (h8 : mi_W d 173 209 [some (.ref l1), some (.int l2), some (.long l3), none, some (.int l4), o5, o6, o7] [.long l3] (n, sl, f) Q) : mi_W d 173 195 [some (.ref l1), some (.int l2), some (.long l3), none, some (.int l4), o5, o6, o7] [] (n, sl, f) Q := by
  refine w_lload_n cd_173_195 rfl ?_
  exact w_goto cd_173_196 (by decide) h8
theorem b_173_199 {d : Nat} {Q : (Option Value ⊕ Nat) → mi_H → Prop} (n sl : Nat) (f : Nat → mi_C) {l1 : Nat} {l2 : Int32} {l3 : Int64} {l4 : Int32} {o5 : Option Value} {o6 : Option Value} {o7 : Option Value} {fs8 : List Value} {x11 : Nat} {fs13 : List Value} {x16 : Nat} (m18 i18 : Nat) (g18 : Nat → Int64) (h9 : f l1 = .inr (12, fs8)) (h10 : l1 < n) (h12 : fs8[43]? = some (.ref x11)) (h14 : f x11 = .inr (13, fs13)) (h15 : x11 < n) (h17 : fs13[2]? = some (.ref x16)) (h19 : f x16 = .inl (3, m18, .inr (.inl g18))) (h20 : x16 < n) (h21 : mi_ix l4 m18 i18) (h22 : mi_W d 173 209 [some (.ref l1), some (.int l2), some (.long l3), none, some (.int l4), o5, o6, o7] [.long (g18 i18)] (n, sl, f) Q) : mi_W d 173 199 [some (.ref l1), some (.int l2), some (.long l3), none, some (.int l4), o5, o6, o7] [] (n, sl, f) Q := by
  refine w_aload_n cd_173_199 rfl ?_
  refine w_getfield cd_173_200 (show mt_f 12 445 = some (12, 43) by decide +kernel) h9 h10 h12 ?_
  refine w_getfield cd_173_203 (show mt_f 12 448 = some (13, 2) by decide +kernel) h14 h15 h17 ?_
  refine w_iload cd_173_206 rfl ?_
  refine w_laload cd_173_208 h19 h20 h21 ?_
  exact h22
theorem b_173_209 {d : Nat} {Q : (Option Value ⊕ Nat) → mi_H → Prop} (n sl : Nat) (f : Nat → mi_C) {l1 : Nat} {l2 : Int32} {l3 : Int64} {l4 : Int32} {o5 : Option Value} {o6 : Option Value} {o7 : Option Value} {s8 : Int64} (h9 : (0 : Int32) ≤ (lg_cmp s8 l3) → mi_W d 173 224 [some (.ref l1), some (.int l2), some (.long l3), none, some (.int l4), some (.long s8), none, o7] [] (n, sl, f) Q) (h10 : ¬ ((0 : Int32) ≤ (lg_cmp s8 l3)) → mi_W d 173 218 [some (.ref l1), some (.int l2), some (.long l3), none, some (.int l4), some (.long s8), none, o7] [] (n, sl, f) Q) : mi_W d 173 209 [some (.ref l1), some (.int l2), some (.long l3), none, some (.int l4), o5, o6, o7] [.long s8] (n, sl, f) Q := by
  refine w_lstore (ls' := [some (.ref l1), some (.int l2), some (.long l3), none, some (.int l4), some (.long s8), none, o7]) cd_173_209 (Nat.le_of_ble_eq_true rfl) rfl ?_
  refine w_lload cd_173_211 rfl ?_
  refine w_lload_n cd_173_213 rfl ?_
  refine w_lcmp cd_173_214 ?_
  exact w_ifge cd_173_215 (by decide) h9 h10
theorem b_173_218 {d : Nat} {Q : (Option Value ⊕ Nat) → mi_H → Prop} (n sl : Nat) (f : Nat → mi_C) {l1 : Nat} {l2 : Int32} {l3 : Int64} {l4 : Int32} {l5 : Int64} {o6 : Option Value} {fs7 : List Value} (h8 : f l1 = .inr (12, fs7)) (h9 : l1 < n) (h10 : mi_W d 180 0 (mi_en 3 [.ref l1, .int 3, .int l2]) [] (n, sl, f) (mi_Kc d 173 221 [some (.ref l1), some (.int l2), some (.long l3), none, some (.int l4), some (.long l5), none, o6] [] Q)) : mi_W (d + 1) 173 218 [some (.ref l1), some (.int l2), some (.long l3), none, some (.int l4), some (.long l5), none, o6] [] (n, sl, f) Q := by
  refine w_aload_n cd_173_218 rfl ?_
  refine w_iconst (v := 3) cd_173_219 (by decide) ?_
  refine w_iload_n cd_173_220 rfl ?_
  exact w_invokevirtual cd_173_221 (show mt_m 12 502 = some (180, 0) by decide +kernel) (rest := []) rfl (as := [.ref l1, .int 3, .int l2]) rfl h8 (Or.inl h9) ⟨Nat.le_of_ble_eq_true rfl, Nat.le_of_ble_eq_true rfl, Nat.le_of_ble_eq_true rfl⟩ h10
theorem b_173_224 {d : Nat} {Q : (Option Value ⊕ Nat) → mi_H → Prop} (n sl : Nat) (f : Nat → mi_C) {l1 : Nat} {l2 : Int32} {l3 : Int64} {l4 : Int32} {l5 : Int64} {o6 : Option Value} {fs7 : List Value} {x10 : Nat} {fs12 : List Value} {x15 : Nat} (m17 i17 : Nat) (g17 : Nat → Int64) (m21 i21 : Nat) (g21 : Nat → Int64) {fs25 : List Value} {x28 : Nat} (m30 i30 : Nat) (g30 : Nat → Int32) (h8 : f l1 = .inr (12, fs7)) (h9 : l1 < n) (h11 : fs7[43]? = some (.ref x10)) (h13 : f x10 = .inr (13, fs12)) (h14 : x10 < n) (h16 : fs12[2]? = some (.ref x15)) (h18 : f x15 = .inl (3, m17, .inr (.inl g17))) (h19 : x15 < n) (h20 : mi_ix l4 m17 i17) (h22 : f x15 = .inl (3, m21, .inr (.inl g21))) (h23 : x15 < n) (h24 : mi_ix l4 m21 i21) (h26 : (va_up f x15 (.inl (3, m21, .inr (.inl (vp_updL g21 i21 ((g17 i17) - l5)))))) l1 = .inr (12, fs25)) (h27 : l1 < n) (h29 : fs25[12]? = some (.ref x28)) (h31 : (va_up f x15 (.inl (3, m21, .inr (.inl (vp_updL g21 i21 ((g17 i17) - l5)))))) x28 = .inl (0, m30, .inl g30)) (h32 : x28 < n ∨ x28 = mi_SC) (h33 : mi_ix l2 m30 i30) (h34 : ¬ (g30 i30) = 1 → mi_W d 173 283 [some (.ref l1), some (.int l2), some (.long l3), none, some (.int l4), some (.long l5), none, o6] [] (n, sl, (va_up f x15 (.inl (3, m21, .inr (.inl (vp_updL g21 i21 ((g17 i17) - l5))))))) Q) (h35 : ¬ (¬ (g30 i30) = 1) → mi_W d 173 249 [some (.ref l1), some (.int l2), some (.long l3), none, some (.int l4), some (.long l5), none, o6] [] (n, sl, (va_up f x15 (.inl (3, m21, .inr (.inl (vp_updL g21 i21 ((g17 i17) - l5))))))) Q) : mi_W d 173 224 [some (.ref l1), some (.int l2), some (.long l3), none, some (.int l4), some (.long l5), none, o6] [] (n, sl, f) Q := by
  refine w_aload_n cd_173_224 rfl ?_
  refine w_getfield cd_173_225 (show mt_f 12 445 = some (12, 43) by decide +kernel) h8 h9 h11 ?_
  refine w_getfield cd_173_228 (show mt_f 12 448 = some (13, 2) by decide +kernel) h13 h14 h16 ?_
  refine w_iload cd_173_231 rfl ?_
  refine w_dup2_ir cd_173_233 ?_
  refine w_laload cd_173_234 h18 h19 h20 ?_
  refine w_lload cd_173_235 rfl ?_
  refine w_lsub cd_173_237 ?_
  refine w_lastore cd_173_238 h22 h23 h24 ?_
  refine w_aload_n cd_173_239 rfl ?_
  refine w_getfield cd_173_240 (show mt_f 12 77 = some (12, 12) by decide +kernel) h26 h27 h29 ?_
  refine w_iload_n cd_173_243 rfl ?_
  refine w_iaload cd_173_244 h31 h32 h33 ?_
  refine w_iconst (v := 1) cd_173_245 (by decide) ?_
  exact w_if_icmpne cd_173_246 (by decide) h34 h35
theorem b_173_249 {d : Nat} {Q : (Option Value ⊕ Nat) → mi_H → Prop} (n sl : Nat) (f : Nat → mi_C) {l1 : Nat} {l2 : Int32} {l3 : Int64} {l4 : Int32} {l5 : Int64} {o6 : Option Value} (h7 : (lg_cmp l5 0) ≤ (0 : Int32) → mi_W d 173 350 [some (.ref l1), some (.int l2), some (.long l3), none, some (.int l4), some (.long l5), none, o6] [] (n, sl, f) Q) (h8 : ¬ ((lg_cmp l5 0) ≤ (0 : Int32)) → mi_W d 173 256 [some (.ref l1), some (.int l2), some (.long l3), none, some (.int l4), some (.long l5), none, o6] [] (n, sl, f) Q) : mi_W d 173 249 [some (.ref l1), some (.int l2), some (.long l3), none, some (.int l4), some (.long l5), none, o6] [] (n, sl, f) Q := by
  refine w_lload cd_173_249 rfl ?_
  refine w_lconst (lv := 0) cd_173_251 (by decide) ?_
  refine w_lcmp cd_173_252 ?_
  exact w_ifle cd_173_253 (by decide) h7 h8
theorem b_173_256 {d : Nat} {Q : (Option Value ⊕ Nat) → mi_H → Prop} (n sl : Nat) (f : Nat → mi_C) {l1 : Nat} {l2 : Int32} {l3 : Int64} {l4 : Int32} {l5 : Int64} {o6 : Option Value} {fs7 : List Value} {x10 : Nat} (m12 i12 : Nat) (g12 : Nat → Int32) {fs16 : List Value} {x19 : Nat} (m21 i21 : Nat) (g21 : Nat → Int32) {fs25 : List Value} {x28 : Nat} (m30 i30 : Nat) (g30 : Nat → Int32) {fs34 : List Value} (h8 : f l1 = .inr (12, fs7)) (h9 : l1 < n) (h11 : fs7[13]? = some (.ref x10)) (h13 : f x10 = .inl (0, m12, .inl g12)) (h14 : x10 < n ∨ x10 = mi_SC) (h15 : mi_ix l2 m12 i12) (h17 : f l1 = .inr (12, fs16)) (h18 : l1 < n) (h20 : fs16[14]? = some (.ref x19)) (h22 : f x19 = .inl (0, m21, .inl g21)) (h23 : x19 < n ∨ x19 = mi_SC) (h24 : mi_ix l2 m21 i21) (h26 : f l1 = .inr (12, fs25)) (h27 : l1 < n) (h29 : fs25[15]? = some (.ref x28)) (h31 : f x28 = .inl (0, m30, .inl g30)) (h32 : x28 < n ∨ x28 = mi_SC) (h33 : mi_ix l2 m30 i30) (h35 : f l1 = .inr (12, fs34)) (h36 : l1 < n) (h37 : mi_W d 174 0 (mi_en 6 [.ref l1, .int (g12 i12), .int (g21 i21), .int (g30 i30), .long l5]) [] (n, sl, f) (mi_Kc d 173 277 [some (.ref l1), some (.int l2), some (.long l3), none, some (.int l4), some (.long l5), none, o6] [] Q)) : mi_W (d + 1) 173 256 [some (.ref l1), some (.int l2), some (.long l3), none, some (.int l4), some (.long l5), none, o6] [] (n, sl, f) Q := by
  refine w_aload_n cd_173_256 rfl ?_
  refine w_aload_n cd_173_257 rfl ?_
  refine w_getfield cd_173_258 (show mt_f 12 80 = some (12, 13) by decide +kernel) h8 h9 h11 ?_
  refine w_iload_n cd_173_261 rfl ?_
  refine w_iaload cd_173_262 h13 h14 h15 ?_
  refine w_aload_n cd_173_263 rfl ?_
  refine w_getfield cd_173_264 (show mt_f 12 83 = some (12, 14) by decide +kernel) h17 h18 h20 ?_
  refine w_iload_n cd_173_267 rfl ?_
  refine w_iaload cd_173_268 h22 h23 h24 ?_
  refine w_aload_n cd_173_269 rfl ?_
  refine w_getfield cd_173_270 (show mt_f 12 86 = some (12, 15) by decide +kernel) h26 h27 h29 ?_
  refine w_iload_n cd_173_273 rfl ?_
  refine w_iaload cd_173_274 h31 h32 h33 ?_
  refine w_lload cd_173_275 rfl ?_
  exact w_invokevirtual cd_173_277 (show mt_m 12 499 = some (174, 0) by decide +kernel) (rest := []) rfl (as := [.ref l1, .int (g12 i12), .int (g21 i21), .int (g30 i30), .long l5]) rfl h35 (Or.inl h36) ⟨Nat.le_of_ble_eq_true rfl, Nat.le_of_ble_eq_true rfl, Nat.le_of_ble_eq_true rfl⟩ h37
theorem b_173_280 {d : Nat} {Q : (Option Value ⊕ Nat) → mi_H → Prop} (n sl : Nat) (f : Nat → mi_C) {l1 : Nat} {l2 : Int32} {l3 : Int64} {l4 : Int32} {l5 : Int64} {o6 : Option Value} (h7 : mi_W d 173 350 [some (.ref l1), some (.int l2), some (.long l3), none, some (.int l4), some (.long l5), none, o6] [] (n, sl, f) Q) : mi_W d 173 280 [some (.ref l1), some (.int l2), some (.long l3), none, some (.int l4), some (.long l5), none, o6] [] (n, sl, f) Q := by
  exact w_goto cd_173_280 (by decide) h7
theorem b_173_283 {d : Nat} {Q : (Option Value ⊕ Nat) → mi_H → Prop} (n sl : Nat) (f : Nat → mi_C) {l1 : Nat} {l2 : Int32} {l3 : Int64} {l4 : Int32} {l5 : Int64} {o6 : Option Value} {fs7 : List Value} {x10 : Nat} (m12 i12 : Nat) (g12 : Nat → Int32) {fs16 : List Value} {x19 : Nat} (m21 i21 : Nat) (g21 : Nat → Int32) {fs25 : List Value} {x28 : Nat} {fs30 : List Value} {x33 : Nat} (m35 i35 : Nat) (g35 : Nat → Int64) (m39 i39 : Nat) (g39 : Nat → Int64) {fs43 : List Value} {x46 : Nat} {fs48 : List Value} {x51 : Nat} (m53 i53 : Nat) (g53 : Nat → Int64) (h8 : f l1 = .inr (12, fs7)) (h9 : l1 < n) (h11 : fs7[14]? = some (.ref x10)) (h13 : f x10 = .inl (0, m12, .inl g12)) (h14 : x10 < n ∨ x10 = mi_SC) (h15 : mi_ix l2 m12 i12) (h17 : f l1 = .inr (12, fs16)) (h18 : l1 < n) (h20 : fs16[15]? = some (.ref x19)) (h22 : f x19 = .inl (0, m21, .inl g21)) (h23 : x19 < n ∨ x19 = mi_SC) (h24 : mi_ix l2 m21 i21) (h26 : f l1 = .inr (12, fs25)) (h27 : l1 < n) (h29 : fs25[43]? = some (.ref x28)) (h31 : f x28 = .inr (13, fs30)) (h32 : x28 < n) (h34 : fs30[2]? = some (.ref x33)) (h36 : f x33 = .inl (3, m35, .inr (.inl g35))) (h37 : x33 < n) (h38 : mi_ix ((4 * (g12 i12)) + (g21 i21)) m35 i35) (h40 : f x33 = .inl (3, m39, .inr (.inl g39))) (h41 : x33 < n) (h42 : mi_ix ((4 * (g12 i12)) + (g21 i21)) m39 i39) (h44 : (va_up f x33 (.inl (3, m39, .inr (.inl (vp_updL g39 i39 ((g35 i35) + l5)))))) l1 = .inr (12, fs43)) (h45 : l1 < n) (h47 : fs43[43]? = some (.ref x46)) (h49 : (va_up f x33 (.inl (3, m39, .inr (.inl (vp_updL g39 i39 ((g35 i35) + l5)))))) x46 = .inr (13, fs48)) (h50 : x46 < n) (h52 : fs48[2]? = some (.ref x51)) (h54 : (va_up f x33 (.inl (3, m39, .inr (.inl (vp_updL g39 i39 ((g35 i35) + l5)))))) x51 = .inl (3, m53, .inr (.inl g53))) (h55 : x51 < n) (h56 : mi_ix ((4 * (g12 i12)) + (g21 i21)) m53 i53) (h57 : (0 : Int32) < (lg_cmp (g53 i53) 4611686018427387904) → mi_W d 173 347 [some (.ref l1), some (.int l2), some (.long l3), none, some (.int l4), some (.long l5), none, some (.int ((4 * (g12 i12)) + (g21 i21)))] [] (n, sl, (va_up f x33 (.inl (3, m39, .inr (.inl (vp_updL g39 i39 ((g35 i35) + l5))))))) Q) (h58 : ¬ ((0 : Int32) < (lg_cmp (g53 i53) 4611686018427387904)) → mi_W d 173 332 [some (.ref l1), some (.int l2), some (.long l3), none, some (.int l4), some (.long l5), none, some (.int ((4 * (g12 i12)) + (g21 i21)))] [] (n, sl, (va_up f x33 (.inl (3, m39, .inr (.inl (vp_updL g39 i39 ((g35 i35) + l5))))))) Q) : mi_W d 173 283 [some (.ref l1), some (.int l2), some (.long l3), none, some (.int l4), some (.long l5), none, o6] [] (n, sl, f) Q := by
  refine w_iconst (v := 4) cd_173_283 (by decide) ?_
  refine w_aload_n cd_173_284 rfl ?_
  refine w_getfield cd_173_285 (show mt_f 12 83 = some (12, 14) by decide +kernel) h8 h9 h11 ?_
  refine w_iload_n cd_173_288 rfl ?_
  refine w_iaload cd_173_289 h13 h14 h15 ?_
  refine w_imul cd_173_290 ?_
  refine w_aload_n cd_173_291 rfl ?_
  refine w_getfield cd_173_292 (show mt_f 12 86 = some (12, 15) by decide +kernel) h17 h18 h20 ?_
  refine w_iload_n cd_173_295 rfl ?_
  refine w_iaload cd_173_296 h22 h23 h24 ?_
  refine w_iadd cd_173_297 ?_
  refine w_istore (ls' := [some (.ref l1), some (.int l2), some (.long l3), none, some (.int l4), some (.long l5), none, some (.int ((4 * (g12 i12)) + (g21 i21)))]) cd_173_298 (Nat.le_of_ble_eq_true rfl) rfl ?_
  refine w_aload_n cd_173_300 rfl ?_
  refine w_getfield cd_173_301 (show mt_f 12 445 = some (12, 43) by decide +kernel) h26 h27 h29 ?_
  refine w_getfield cd_173_304 (show mt_f 12 448 = some (13, 2) by decide +kernel) h31 h32 h34 ?_
  refine w_iload cd_173_307 rfl ?_
  refine w_dup2_ir cd_173_309 ?_
  refine w_laload cd_173_310 h36 h37 h38 ?_
  refine w_lload cd_173_311 rfl ?_
  refine w_ladd cd_173_313 ?_
  refine w_lastore cd_173_314 h40 h41 h42 ?_
  refine w_aload_n cd_173_315 rfl ?_
  refine w_getfield cd_173_316 (show mt_f 12 445 = some (12, 43) by decide +kernel) h44 h45 h47 ?_
  refine w_getfield cd_173_319 (show mt_f 12 448 = some (13, 2) by decide +kernel) h49 h50 h52 ?_
  refine w_iload cd_173_322 rfl ?_
  refine w_laload cd_173_324 h54 h55 h56 ?_
  refine w_ldc2_w (lv := 4611686018427387904) cd_173_325 (by decide +kernel) ?_
  refine w_lcmp cd_173_328 ?_
  exact w_ifgt cd_173_329 (by decide) h57 h58
theorem b_173_332 {d : Nat} {Q : (Option Value ⊕ Nat) → mi_H → Prop} (n sl : Nat) (f : Nat → mi_C) {l1 : Nat} {l2 : Int32} {l3 : Int64} {l4 : Int32} {l5 : Int64} {l6 : Int32} {fs7 : List Value} {x10 : Nat} {fs12 : List Value} {x15 : Nat} (m17 i17 : Nat) (g17 : Nat → Int64) (h8 : f l1 = .inr (12, fs7)) (h9 : l1 < n) (h11 : fs7[43]? = some (.ref x10)) (h13 : f x10 = .inr (13, fs12)) (h14 : x10 < n) (h16 : fs12[2]? = some (.ref x15)) (h18 : f x15 = .inl (3, m17, .inr (.inl g17))) (h19 : x15 < n) (h20 : mi_ix l6 m17 i17) (h21 : (0 : Int32) ≤ (lg_cmp (g17 i17) 0) → mi_W d 173 350 [some (.ref l1), some (.int l2), some (.long l3), none, some (.int l4), some (.long l5), none, some (.int l6)] [] (n, sl, f) Q) (h22 : ¬ ((0 : Int32) ≤ (lg_cmp (g17 i17) 0)) → mi_W d 173 347 [some (.ref l1), some (.int l2), some (.long l3), none, some (.int l4), some (.long l5), none, some (.int l6)] [] (n, sl, f) Q) : mi_W d 173 332 [some (.ref l1), some (.int l2), some (.long l3), none, some (.int l4), some (.long l5), none, some (.int l6)] [] (n, sl, f) Q := by
  refine w_aload_n cd_173_332 rfl ?_
  refine w_getfield cd_173_333 (show mt_f 12 445 = some (12, 43) by decide +kernel) h8 h9 h11 ?_
  refine w_getfield cd_173_336 (show mt_f 12 448 = some (13, 2) by decide +kernel) h13 h14 h16 ?_
  refine w_iload cd_173_339 rfl ?_
  refine w_laload cd_173_341 h18 h19 h20 ?_
  refine w_lconst (lv := 0) cd_173_342 (by decide) ?_
  refine w_lcmp cd_173_343 ?_
  exact w_ifge cd_173_344 (by decide) h21 h22
theorem b_173_347 {d : Nat} {Q : (Option Value ⊕ Nat) → mi_H → Prop} (n sl : Nat) (f : Nat → mi_C) {l1 : Nat} {l2 : Int32} {l3 : Int64} {l4 : Int32} {l5 : Int64} {l6 : Int32} (h7 : Q (.inl (some (.int 6))) (n, sl, f)) : mi_W d 173 347 [some (.ref l1), some (.int l2), some (.long l3), none, some (.int l4), some (.long l5), none, some (.int l6)] [] (n, sl, f) Q := by
  refine w_bipush (v := 6) cd_173_347 (by decide) ?_
  exact w_ireturn_i cd_173_349 (by decide +kernel) h7
theorem b_173_350 {d : Nat} {Q : (Option Value ⊕ Nat) → mi_H → Prop} (n sl : Nat) (f : Nat → mi_C) {l1 : Nat} {l2 : Int32} {l3 : Int64} {o4 : Option Value} {o5 : Option Value} {o6 : Option Value} {o7 : Option Value} {fs8 : List Value} {x11 : Nat} {fs13 : List Value} {x16 : Nat} (m18 i18 : Nat) (g18 : Nat → Int32) {fs22 : List Value} (h9 : f l1 = .inr (12, fs8)) (h10 : l1 < n) (h12 : fs8[43]? = some (.ref x11)) (h14 : f l1 = .inr (12, fs13)) (h15 : l1 < n) (h17 : fs13[19]? = some (.ref x16)) (h19 : f x16 = .inl (0, m18, .inl g18)) (h20 : x16 < n ∨ x16 = mi_SC) (h21 : mi_ix l2 m18 i18) (h23 : f x11 = .inr (13, fs22)) (h24 : x11 < n) (h25 : 0 < fs22.length) (h26 : mi_W d 173 598 [some (.ref l1), some (.int l2), some (.long l3), none, o4, o5, o6, o7] [] (n, sl, (va_up f x11 (.inr (13, fs22.set 0 (.int (g18 i18)))))) Q) : mi_W d 173 350 [some (.ref l1), some (.int l2), some (.long l3), none, o4, o5, o6, o7] [] (n, sl, f) Q := by
  refine w_aload_n cd_173_350 rfl ?_
  refine w_getfield cd_173_351 (show mt_f 12 445 = some (12, 43) by decide +kernel) h9 h10 h12 ?_
  refine w_aload_n cd_173_354 rfl ?_
  refine w_getfield cd_173_355 (show mt_f 12 98 = some (12, 19) by decide +kernel) h14 h15 h17 ?_
  refine w_iload_n cd_173_358 rfl ?_
  refine w_iaload cd_173_359 h19 h20 h21 ?_
  refine w_putfield (w := .int (g18 i18)) cd_173_360 (show mt_f 12 496 = some (13, 0) by decide +kernel) h23 h24 ⟨h25, rfl, Or.inl (by decide)⟩ ?_
  exact w_goto cd_173_363 (by decide) h26
theorem b_173_366 {d : Nat} {Q : (Option Value ⊕ Nat) → mi_H → Prop} (n sl : Nat) (f : Nat → mi_C) {l1 : Nat} {l2 : Int32} {o3 : Option Value} {o4 : Option Value} {o5 : Option Value} {o6 : Option Value} {o7 : Option Value} {o8 : Option Value} {fs9 : List Value} {x12 : Nat} (m14 i14 : Nat) (g14 : Nat → Int32) {fs18 : List Value} (h10 : f l1 = .inr (12, fs9)) (h11 : l1 < n) (h13 : fs9[16]? = some (.ref x12)) (h15 : f x12 = .inl (0, m14, .inl g14)) (h16 : x12 < n ∨ x12 = mi_SC) (h17 : mi_ix l2 m14 i14) (h19 : f l1 = .inr (12, fs18)) (h20 : l1 < n) (h21 : mi_W d 177 0 (mi_en 6 [.ref l1, .int (g14 i14)]) [] (n, sl, f) (mi_Kc d 173 373 [some (.ref l1), some (.int l2), o3, o4, o5, o6, o7, o8] [] Q)) : mi_W (d + 1) 173 366 [some (.ref l1), some (.int l2), o3, o4, o5, o6, o7, o8] [] (n, sl, f) Q := by
  refine w_aload_n cd_173_366 rfl ?_
  refine w_aload_n cd_173_367 rfl ?_
  refine w_getfield cd_173_368 (show mt_f 12 89 = some (12, 16) by decide +kernel) h10 h11 h13 ?_
  refine w_iload_n cd_173_371 rfl ?_
  refine w_iaload cd_173_372 h15 h16 h17 ?_
  exact w_invokevirtual cd_173_373 (show mt_m 12 477 = some (177, 0) by decide +kernel) (rest := []) rfl (as := [.ref l1, .int (g14 i14)]) rfl h19 (Or.inl h20) ⟨Nat.le_of_ble_eq_true rfl, Nat.le_of_ble_eq_true rfl, Nat.le_of_ble_eq_true rfl⟩ h21
theorem b_173_376 {d : Nat} {Q : (Option Value ⊕ Nat) → mi_H → Prop} (n sl : Nat) (f : Nat → mi_C) {l1 : Nat} {l2 : Int32} {o3 : Option Value} {o4 : Option Value} {o5 : Option Value} {o6 : Option Value} {o7 : Option Value} {o8 : Option Value} {s9 : Int32} {fs10 : List Value} {x13 : Int32} (h11 : f l1 = .inr (12, fs10)) (h12 : l1 < n) (h14 : fs10[46]? = some (.int x13)) (h15 : x13 = (0 : Int32) → mi_W d 173 387 [some (.ref l1), some (.int l2), some (.int s9), o4, o5, o6, o7, o8] [] (n, sl, f) Q) (h16 : ¬ (x13 = (0 : Int32)) → mi_W d 173 384 [some (.ref l1), some (.int l2), some (.int s9), o4, o5, o6, o7, o8] [] (n, sl, f) Q) : mi_W d 173 376 [some (.ref l1), some (.int l2), o3, o4, o5, o6, o7, o8] [.int s9] (n, sl, f) Q := by
  refine w_istore_n (ls' := [some (.ref l1), some (.int l2), some (.int s9), o4, o5, o6, o7, o8]) cd_173_376 (Nat.le_of_ble_eq_true rfl) rfl ?_
  refine w_aload_n cd_173_377 rfl ?_
  refine w_getfield cd_173_378 (show mt_f 12 441 = some (12, 46) by decide +kernel) h11 h12 h14 ?_
  exact w_ifeq cd_173_381 (by decide) h15 h16
theorem b_173_384 {d : Nat} {Q : (Option Value ⊕ Nat) → mi_H → Prop} (n sl : Nat) (f : Nat → mi_C) {l1 : Nat} {l2 : Int32} {l3 : Int32} {o4 : Option Value} {o5 : Option Value} {o6 : Option Value} {o7 : Option Value} {o8 : Option Value} (h9 : Q (.inl (some (.int 6))) (n, sl, f)) : mi_W d 173 384 [some (.ref l1), some (.int l2), some (.int l3), o4, o5, o6, o7, o8] [] (n, sl, f) Q := by
  refine w_bipush (v := 6) cd_173_384 (by decide) ?_
  exact w_ireturn_i cd_173_386 (by decide +kernel) h9
theorem b_173_387 {d : Nat} {Q : (Option Value ⊕ Nat) → mi_H → Prop} (n sl : Nat) (f : Nat → mi_C) {l1 : Nat} {l2 : Int32} {l3 : Int32} {o4 : Option Value} {o5 : Option Value} {o6 : Option Value} {o7 : Option Value} {o8 : Option Value} {fs9 : List Value} {x12 : Nat} (h10 : f l1 = .inr (12, fs9)) (h11 : l1 < n) (h13 : fs9[43]? = some (.ref x12)) (h14 : l3 = (0 : Int32) → mi_W d 173 404 [some (.ref l1), some (.int l2), some (.int l3), o4, o5, o6, o7, o8] [.ref x12] (n, sl, f) Q) (h15 : ¬ (l3 = (0 : Int32)) → mi_W d 173 395 [some (.ref l1), some (.int l2), some (.int l3), o4, o5, o6, o7, o8] [.ref x12] (n, sl, f) Q) : mi_W d 173 387 [some (.ref l1), some (.int l2), some (.int l3), o4, o5, o6, o7, o8] [] (n, sl, f) Q := by
  refine w_aload_n cd_173_387 rfl ?_
  refine w_getfield cd_173_388 (show mt_f 12 445 = some (12, 43) by decide +kernel) h10 h11 h13 ?_
  refine w_iload_n cd_173_391 rfl ?_
  exact w_ifeq cd_173_392 (by decide) h14 h15
theorem b_173_395 {d : Nat} {Q : (Option Value ⊕ Nat) → mi_H → Prop} (n sl : Nat) (f : Nat → mi_C) {l1 : Nat} {l2 : Int32} {l3 : Int32} {o4 : Option Value} {o5 : Option Value} {o6 : Option Value} {o7 : Option Value} {o8 : Option Value} {s9 : Nat} {fs10 : List Value} {x13 : Nat} (m15 i15 : Nat) (g15 : Nat → Int32) (h11 : f l1 = .inr (12, fs10)) (h12 : l1 < n) (h14 : fs10[13]? = some (.ref x13)) (h16 : f x13 = .inl (0, m15, .inl g15)) (h17 : x13 < n ∨ x13 = mi_SC) (h18 : mi_ix l2 m15 i15) (h19 : mi_W d 173 410 [some (.ref l1), some (.int l2), some (.int l3), o4, o5, o6, o7, o8] [.int (g15 i15), .ref s9] (n, sl, f) Q) : mi_W d 173 395 [some (.ref l1), some (.int l2), some (.int l3), o4, o5, o6, o7, o8] [.ref s9] (n, sl, f) Q := by
  refine w_aload_n cd_173_395 rfl ?_
  refine w_getfield cd_173_396 (show mt_f 12 80 = some (12, 13) by decide +kernel) h11 h12 h14 ?_
  refine w_iload_n cd_173_399 rfl ?_
  refine w_iaload cd_173_400 h16 h17 h18 ?_
  exact w_goto cd_173_401 (by decide) h19
theorem b_173_404 {d : Nat} {Q : (Option Value ⊕ Nat) → mi_H → Prop} (n sl : Nat) (f : Nat → mi_C) {l1 : Nat} {l2 : Int32} {l3 : Int32} {o4 : Option Value} {o5 : Option Value} {o6 : Option Value} {o7 : Option Value} {o8 : Option Value} {s9 : Nat} {fs10 : List Value} {x13 : Nat} (m15 i15 : Nat) (g15 : Nat → Int32) (h11 : f l1 = .inr (12, fs10)) (h12 : l1 < n) (h14 : fs10[14]? = some (.ref x13)) (h16 : f x13 = .inl (0, m15, .inl g15)) (h17 : x13 < n ∨ x13 = mi_SC) (h18 : mi_ix l2 m15 i15) (h19 : mi_W d 173 410 [some (.ref l1), some (.int l2), some (.int l3), o4, o5, o6, o7, o8] [.int (g15 i15), .ref s9] (n, sl, f) Q) : mi_W d 173 404 [some (.ref l1), some (.int l2), some (.int l3), o4, o5, o6, o7, o8] [.ref s9] (n, sl, f) Q := by
  refine w_aload_n cd_173_404 rfl ?_
  refine w_getfield cd_173_405 (show mt_f 12 83 = some (12, 14) by decide +kernel) h11 h12 h14 ?_
  refine w_iload_n cd_173_408 rfl ?_
  refine w_iaload cd_173_409 h16 h17 h18 ?_
  exact h19
theorem b_173_410 {d : Nat} {Q : (Option Value ⊕ Nat) → mi_H → Prop} (n sl : Nat) (f : Nat → mi_C) {l1 : Nat} {l2 : Int32} {l3 : Int32} {o4 : Option Value} {o5 : Option Value} {o6 : Option Value} {o7 : Option Value} {o8 : Option Value} {s9 : Int32} {s10 : Nat} {fs11 : List Value} (h12 : f s10 = .inr (13, fs11)) (h13 : s10 < n) (h14 : 0 < fs11.length) (h15 : mi_W d 173 598 [some (.ref l1), some (.int l2), some (.int l3), o4, o5, o6, o7, o8] [] (n, sl, (va_up f s10 (.inr (13, fs11.set 0 (.int s9))))) Q) : mi_W d 173 410 [some (.ref l1), some (.int l2), some (.int l3), o4, o5, o6, o7, o8] [.int s9, .ref s10] (n, sl, f) Q := by
  refine w_putfield (w := .int s9) cd_173_410 (show mt_f 12 496 = some (13, 0) by decide +kernel) h12 h13 ⟨h14, rfl, Or.inl (by decide)⟩ ?_
  exact w_goto cd_173_413 (by decide) h15
theorem b_173_416 {d : Nat} {Q : (Option Value ⊕ Nat) → mi_H → Prop} (n sl : Nat) (f : Nat → mi_C) {l1 : Nat} {l2 : Int32} {o3 : Option Value} {o4 : Option Value} {o5 : Option Value} {o6 : Option Value} {o7 : Option Value} {o8 : Option Value} {fs9 : List Value} {x12 : Int64} {fs14 : List Value} {x17 : Nat} (m19 i19 : Nat) (g19 : Nat → Int64) (h10 : f l1 = .inr (12, fs9)) (h11 : l1 < n) (h13 : fs9[45]? = some (.long x12)) (h15 : f l1 = .inr (12, fs14)) (h16 : l1 < n) (h18 : fs14[20]? = some (.ref x17)) (h20 : f x17 = .inl (3, m19, .inr (.inl g19))) (h21 : x17 < n) (h22 : mi_ix l2 m19 i19) (h23 : (0 : Int32) ≤ (lg_cmp x12 (g19 i19)) → mi_W d 173 432 [some (.ref l1), some (.int l2), o3, o4, o5, o6, o7, o8] [] (n, sl, f) Q) (h24 : ¬ ((0 : Int32) ≤ (lg_cmp x12 (g19 i19))) → mi_W d 173 430 [some (.ref l1), some (.int l2), o3, o4, o5, o6, o7, o8] [] (n, sl, f) Q) : mi_W d 173 416 [some (.ref l1), some (.int l2), o3, o4, o5, o6, o7, o8] [] (n, sl, f) Q := by
  refine w_aload_n cd_173_416 rfl ?_
  refine w_getfield cd_173_417 (show mt_f 12 474 = some (12, 45) by decide +kernel) h10 h11 h13 ?_
  refine w_aload_n cd_173_420 rfl ?_
  refine w_getfield cd_173_421 (show mt_f 12 101 = some (12, 20) by decide +kernel) h15 h16 h18 ?_
  refine w_iload_n cd_173_424 rfl ?_
  refine w_laload cd_173_425 h20 h21 h22 ?_
  refine w_lcmp cd_173_426 ?_
  exact w_ifge cd_173_427 (by decide) h23 h24
theorem b_173_430 {d : Nat} {Q : (Option Value ⊕ Nat) → mi_H → Prop} (n sl : Nat) (f : Nat → mi_C) {l1 : Nat} {l2 : Int32} {o3 : Option Value} {o4 : Option Value} {o5 : Option Value} {o6 : Option Value} {o7 : Option Value} {o8 : Option Value} (h9 : Q (.inl (some (.int 0))) (n, sl, f)) : mi_W d 173 430 [some (.ref l1), some (.int l2), o3, o4, o5, o6, o7, o8] [] (n, sl, f) Q := by
  refine w_iconst (v := 0) cd_173_430 (by decide) ?_
  exact w_ireturn_i cd_173_431 (by decide +kernel) h9
theorem b_173_432 {d : Nat} {Q : (Option Value ⊕ Nat) → mi_H → Prop} (n sl : Nat) (f : Nat → mi_C) {l1 : Nat} {l2 : Int32} {o3 : Option Value} {o4 : Option Value} {o5 : Option Value} {o6 : Option Value} {o7 : Option Value} {o8 : Option Value} {fs9 : List Value} {x12 : Nat} (m14 i14 : Nat) (g14 : Nat → Int64) {fs18 : List Value} {x21 : Int64} (h10 : f l1 = .inr (12, fs9)) (h11 : l1 < n) (h13 : fs9[20]? = some (.ref x12)) (h15 : f x12 = .inl (3, m14, .inr (.inl g14))) (h16 : x12 < n) (h17 : mi_ix l2 m14 i14) (h19 : f l1 = .inr (12, fs18)) (h20 : l1 < n) (h22 : fs18[44]? = some (.long x21)) (h23 : (lg_cmp (g14 i14) x21) ≤ (0 : Int32) → mi_W d 173 448 [some (.ref l1), some (.int l2), o3, o4, o5, o6, o7, o8] [] (n, sl, f) Q) (h24 : ¬ ((lg_cmp (g14 i14) x21) ≤ (0 : Int32)) → mi_W d 173 446 [some (.ref l1), some (.int l2), o3, o4, o5, o6, o7, o8] [] (n, sl, f) Q) : mi_W d 173 432 [some (.ref l1), some (.int l2), o3, o4, o5, o6, o7, o8] [] (n, sl, f) Q := by
  refine w_aload_n cd_173_432 rfl ?_
  refine w_getfield cd_173_433 (show mt_f 12 101 = some (12, 20) by decide +kernel) h10 h11 h13 ?_
  refine w_iload_n cd_173_436 rfl ?_
  refine w_laload cd_173_437 h15 h16 h17 ?_
  refine w_aload_n cd_173_438 rfl ?_
  refine w_getfield cd_173_439 (show mt_f 12 471 = some (12, 44) by decide +kernel) h19 h20 h22 ?_
  refine w_lcmp cd_173_442 ?_
  exact w_ifle cd_173_443 (by decide) h23 h24
theorem b_173_446 {d : Nat} {Q : (Option Value ⊕ Nat) → mi_H → Prop} (n sl : Nat) (f : Nat → mi_C) {l1 : Nat} {l2 : Int32} {o3 : Option Value} {o4 : Option Value} {o5 : Option Value} {o6 : Option Value} {o7 : Option Value} {o8 : Option Value} (h9 : Q (.inl (some (.int 3))) (n, sl, f)) : mi_W d 173 446 [some (.ref l1), some (.int l2), o3, o4, o5, o6, o7, o8] [] (n, sl, f) Q := by
  refine w_iconst (v := 3) cd_173_446 (by decide) ?_
  exact w_ireturn_i cd_173_447 (by decide +kernel) h9
theorem b_173_448 {d : Nat} {Q : (Option Value ⊕ Nat) → mi_H → Prop} (n sl : Nat) (f : Nat → mi_C) {l1 : Nat} {l2 : Int32} {o3 : Option Value} {o4 : Option Value} {o5 : Option Value} {o6 : Option Value} {o7 : Option Value} {o8 : Option Value} {fs9 : List Value} {x12 : Nat} {fs14 : List Value} {x17 : Nat} (m19 i19 : Nat) (g19 : Nat → Int32) {fs23 : List Value} (h10 : f l1 = .inr (12, fs9)) (h11 : l1 < n) (h13 : fs9[43]? = some (.ref x12)) (h15 : f l1 = .inr (12, fs14)) (h16 : l1 < n) (h18 : fs14[19]? = some (.ref x17)) (h20 : f x17 = .inl (0, m19, .inl g19)) (h21 : x17 < n ∨ x17 = mi_SC) (h22 : mi_ix l2 m19 i19) (h24 : f x12 = .inr (13, fs23)) (h25 : x12 < n) (h26 : 0 < fs23.length) (h27 : mi_W d 173 598 [some (.ref l1), some (.int l2), o3, o4, o5, o6, o7, o8] [] (n, sl, (va_up f x12 (.inr (13, fs23.set 0 (.int (g19 i19)))))) Q) : mi_W d 173 448 [some (.ref l1), some (.int l2), o3, o4, o5, o6, o7, o8] [] (n, sl, f) Q := by
  refine w_aload_n cd_173_448 rfl ?_
  refine w_getfield cd_173_449 (show mt_f 12 445 = some (12, 43) by decide +kernel) h10 h11 h13 ?_
  refine w_aload_n cd_173_452 rfl ?_
  refine w_getfield cd_173_453 (show mt_f 12 98 = some (12, 19) by decide +kernel) h15 h16 h18 ?_
  refine w_iload_n cd_173_456 rfl ?_
  refine w_iaload cd_173_457 h20 h21 h22 ?_
  refine w_putfield (w := .int (g19 i19)) cd_173_458 (show mt_f 12 496 = some (13, 0) by decide +kernel) h24 h25 ⟨h26, rfl, Or.inl (by decide)⟩ ?_
  exact w_goto cd_173_461 (by decide) h27
theorem b_173_464 {d : Nat} {Q : (Option Value ⊕ Nat) → mi_H → Prop} (n sl : Nat) (f : Nat → mi_C) {l1 : Nat} {l2 : Int32} {o3 : Option Value} {o4 : Option Value} {o5 : Option Value} {o6 : Option Value} {o7 : Option Value} {o8 : Option Value} {fs9 : List Value} {x12 : Nat} (m14 i14 : Nat) (g14 : Nat → Int32) {fs18 : List Value} (h10 : f l1 = .inr (12, fs9)) (h11 : l1 < n) (h13 : fs9[16]? = some (.ref x12)) (h15 : f x12 = .inl (0, m14, .inl g14)) (h16 : x12 < n ∨ x12 = mi_SC) (h17 : mi_ix l2 m14 i14) (h19 : f l1 = .inr (12, fs18)) (h20 : l1 < n) (h21 : mi_W d 175 0 (mi_en 2 [.ref l1, .int (g14 i14)]) [] (n, sl, f) (mi_Kc d 173 471 [some (.ref l1), some (.int l2), o3, o4, o5, o6, o7, o8] [] Q)) : mi_W (d + 1) 173 464 [some (.ref l1), some (.int l2), o3, o4, o5, o6, o7, o8] [] (n, sl, f) Q := by
  refine w_aload_n cd_173_464 rfl ?_
  refine w_aload_n cd_173_465 rfl ?_
  refine w_getfield cd_173_466 (show mt_f 12 89 = some (12, 16) by decide +kernel) h10 h11 h13 ?_
  refine w_iload_n cd_173_469 rfl ?_
  refine w_iaload cd_173_470 h15 h16 h17 ?_
  exact w_invokevirtual cd_173_471 (show mt_m 12 451 = some (175, 0) by decide +kernel) (rest := []) rfl (as := [.ref l1, .int (g14 i14)]) rfl h19 (Or.inl h20) ⟨Nat.le_of_ble_eq_true rfl, Nat.le_of_ble_eq_true rfl, Nat.le_of_ble_eq_true rfl⟩ h21
theorem b_173_474 {d : Nat} {Q : (Option Value ⊕ Nat) → mi_H → Prop} (n sl : Nat) (f : Nat → mi_C) {l1 : Nat} {l2 : Int32} {o3 : Option Value} {o4 : Option Value} {o5 : Option Value} {o6 : Option Value} {o7 : Option Value} {o8 : Option Value} {s9 : Int64} {fs10 : List Value} {x13 : Int32} (h11 : f l1 = .inr (12, fs10)) (h12 : l1 < n) (h14 : fs10[46]? = some (.int x13)) (h15 : x13 = (0 : Int32) → mi_W d 173 485 [some (.ref l1), some (.int l2), some (.long s9), none, o5, o6, o7, o8] [] (n, sl, f) Q) (h16 : ¬ (x13 = (0 : Int32)) → mi_W d 173 482 [some (.ref l1), some (.int l2), some (.long s9), none, o5, o6, o7, o8] [] (n, sl, f) Q) : mi_W d 173 474 [some (.ref l1), some (.int l2), o3, o4, o5, o6, o7, o8] [.long s9] (n, sl, f) Q := by
  refine w_lstore_n (ls' := [some (.ref l1), some (.int l2), some (.long s9), none, o5, o6, o7, o8]) cd_173_474 (Nat.le_of_ble_eq_true rfl) rfl ?_
  refine w_aload_n cd_173_475 rfl ?_
  refine w_getfield cd_173_476 (show mt_f 12 441 = some (12, 46) by decide +kernel) h11 h12 h14 ?_
  exact w_ifeq cd_173_479 (by decide) h15 h16
theorem b_173_482 {d : Nat} {Q : (Option Value ⊕ Nat) → mi_H → Prop} (n sl : Nat) (f : Nat → mi_C) {l1 : Nat} {l2 : Int32} {l3 : Int64} {o4 : Option Value} {o5 : Option Value} {o6 : Option Value} {o7 : Option Value} (h8 : Q (.inl (some (.int 6))) (n, sl, f)) : mi_W d 173 482 [some (.ref l1), some (.int l2), some (.long l3), none, o4, o5, o6, o7] [] (n, sl, f) Q := by
  refine w_bipush (v := 6) cd_173_482 (by decide) ?_
  exact w_ireturn_i cd_173_484 (by decide +kernel) h8
theorem b_173_485 {d : Nat} {Q : (Option Value ⊕ Nat) → mi_H → Prop} (n sl : Nat) (f : Nat → mi_C) {l1 : Nat} {l2 : Int32} {l3 : Int64} {o4 : Option Value} {o5 : Option Value} {o6 : Option Value} {o7 : Option Value} {fs8 : List Value} {x11 : Nat} {fs13 : List Value} {x16 : Nat} {fs18 : List Value} {x21 : Nat} (m23 i23 : Nat) (g23 : Nat → Int32) (m27 i27 : Nat) (g27 : Nat → Int32) (h9 : f l1 = .inr (12, fs8)) (h10 : l1 < n) (h12 : fs8[43]? = some (.ref x11)) (h14 : f x11 = .inr (13, fs13)) (h15 : x11 < n) (h17 : fs13[6]? = some (.ref x16)) (h19 : f l1 = .inr (12, fs18)) (h20 : l1 < n) (h22 : fs18[13]? = some (.ref x21)) (h24 : f x21 = .inl (0, m23, .inl g23)) (h25 : x21 < n ∨ x21 = mi_SC) (h26 : mi_ix l2 m23 i23) (h28 : f x16 = .inl (2, m27, .inl g27)) (h29 : x16 < n) (h30 : mi_ix (g23 i23) m27 i27) (h31 : (g27 i27) = (0 : Int32) → mi_W d 173 508 [some (.ref l1), some (.int l2), some (.long l3), none, o4, o5, o6, o7] [] (n, sl, f) Q) (h32 : ¬ ((g27 i27) = (0 : Int32)) → mi_W d 173 502 [some (.ref l1), some (.int l2), some (.long l3), none, o4, o5, o6, o7] [] (n, sl, f) Q) : mi_W d 173 485 [some (.ref l1), some (.int l2), some (.long l3), none, o4, o5, o6, o7] [] (n, sl, f) Q := by
  refine w_aload_n cd_173_485 rfl ?_
  refine w_getfield cd_173_486 (show mt_f 12 445 = some (12, 43) by decide +kernel) h9 h10 h12 ?_
  refine w_getfield cd_173_489 (show mt_f 12 465 = some (13, 6) by decide +kernel) h14 h15 h17 ?_
  refine w_aload_n cd_173_492 rfl ?_
  refine w_getfield cd_173_493 (show mt_f 12 80 = some (12, 13) by decide +kernel) h19 h20 h22 ?_
  refine w_iload_n cd_173_496 rfl ?_
  refine w_iaload cd_173_497 h24 h25 h26 ?_
  refine w_baload2 cd_173_498 h28 h29 h30 ?_
  exact w_ifeq cd_173_499 (by decide) h31 h32
theorem b_173_502 {d : Nat} {Q : (Option Value ⊕ Nat) → mi_H → Prop} (n sl : Nat) (f : Nat → mi_C) {l1 : Nat} {l2 : Int32} {l3 : Int64} {o4 : Option Value} {o5 : Option Value} {o6 : Option Value} {o7 : Option Value} {fs8 : List Value} (h9 : f l1 = .inr (12, fs8)) (h10 : l1 < n) (h11 : mi_W d 180 0 (mi_en 3 [.ref l1, .int 4, .int l2]) [] (n, sl, f) (mi_Kc d 173 505 [some (.ref l1), some (.int l2), some (.long l3), none, o4, o5, o6, o7] [] Q)) : mi_W (d + 1) 173 502 [some (.ref l1), some (.int l2), some (.long l3), none, o4, o5, o6, o7] [] (n, sl, f) Q := by
  refine w_aload_n cd_173_502 rfl ?_
  refine w_iconst (v := 4) cd_173_503 (by decide) ?_
  refine w_iload_n cd_173_504 rfl ?_
  exact w_invokevirtual cd_173_505 (show mt_m 12 502 = some (180, 0) by decide +kernel) (rest := []) rfl (as := [.ref l1, .int 4, .int l2]) rfl h9 (Or.inl h10) ⟨Nat.le_of_ble_eq_true rfl, Nat.le_of_ble_eq_true rfl, Nat.le_of_ble_eq_true rfl⟩ h11
theorem b_173_508 {d : Nat} {Q : (Option Value ⊕ Nat) → mi_H → Prop} (n sl : Nat) (f : Nat → mi_C) {l1 : Nat} {l2 : Int32} {l3 : Int64} {o4 : Option Value} {o5 : Option Value} {o6 : Option Value} {o7 : Option Value} {fs8 : List Value} {x11 : Nat} {fs13 : List Value} {x16 : Nat} {fs18 : List Value} {x21 : Nat} (m23 i23 : Nat) (g23 : Nat → Int32) (m27 i27 : Nat) (g27 : Nat → Int32) {fs31 : List Value} {x34 : Nat} {fs36 : List Value} {x39 : Nat} {fs41 : List Value} {x44 : Nat} (m46 i46 : Nat) (g46 : Nat → Int32) (m50 i50 : Nat) (g50 : Nat → Int64) {fs54 : List Value} {x57 : Nat} {fs59 : List Value} {x62 : Nat} (m64 i64 : Nat) (g64 : Nat → Int32) {fs68 : List Value} (h9 : f l1 = .inr (12, fs8)) (h10 : l1 < n) (h12 : fs8[43]? = some (.ref x11)) (h14 : f x11 = .inr (13, fs13)) (h15 : x11 < n) (h17 : fs13[6]? = some (.ref x16)) (h19 : f l1 = .inr (12, fs18)) (h20 : l1 < n) (h22 : fs18[13]? = some (.ref x21)) (h24 : f x21 = .inl (0, m23, .inl g23)) (h25 : x21 < n ∨ x21 = mi_SC) (h26 : mi_ix l2 m23 i23) (h28 : f x16 = .inl (2, m27, .inl g27)) (h29 : x16 < n) (h30 : mi_ix (g23 i23) m27 i27) (h32 : (va_up f x16 (.inl (2, m27, .inl (upd g27 i27 (vp_nar .boolean 1))))) l1 = .inr (12, fs31)) (h33 : l1 < n) (h35 : fs31[43]? = some (.ref x34)) (h37 : (va_up f x16 (.inl (2, m27, .inl (upd g27 i27 (vp_nar .boolean 1))))) x34 = .inr (13, fs36)) (h38 : x34 < n) (h40 : fs36[4]? = some (.ref x39)) (h42 : (va_up f x16 (.inl (2, m27, .inl (upd g27 i27 (vp_nar .boolean 1))))) l1 = .inr (12, fs41)) (h43 : l1 < n) (h45 : fs41[13]? = some (.ref x44)) (h47 : (va_up f x16 (.inl (2, m27, .inl (upd g27 i27 (vp_nar .boolean 1))))) x44 = .inl (0, m46, .inl g46)) (h48 : x44 < n ∨ x44 = mi_SC) (h49 : mi_ix l2 m46 i46) (h51 : (va_up f x16 (.inl (2, m27, .inl (upd g27 i27 (vp_nar .boolean 1))))) x39 = .inl (3, m50, .inr (.inl g50))) (h52 : x39 < n) (h53 : mi_ix (g46 i46) m50 i50) (h55 : (va_up (va_up f x16 (.inl (2, m27, .inl (upd g27 i27 (vp_nar .boolean 1))))) x39 (.inl (3, m50, .inr (.inl (vp_updL g50 i50 l3))))) l1 = .inr (12, fs54)) (h56 : l1 < n) (h58 : fs54[43]? = some (.ref x57)) (h60 : (va_up (va_up f x16 (.inl (2, m27, .inl (upd g27 i27 (vp_nar .boolean 1))))) x39 (.inl (3, m50, .inr (.inl (vp_updL g50 i50 l3))))) l1 = .inr (12, fs59)) (h61 : l1 < n) (h63 : fs59[19]? = some (.ref x62)) (h65 : (va_up (va_up f x16 (.inl (2, m27, .inl (upd g27 i27 (vp_nar .boolean 1))))) x39 (.inl (3, m50, .inr (.inl (vp_updL g50 i50 l3))))) x62 = .inl (0, m64, .inl g64)) (h66 : x62 < n ∨ x62 = mi_SC) (h67 : mi_ix l2 m64 i64) (h69 : (va_up (va_up f x16 (.inl (2, m27, .inl (upd g27 i27 (vp_nar .boolean 1))))) x39 (.inl (3, m50, .inr (.inl (vp_updL g50 i50 l3))))) x57 = .inr (13, fs68)) (h70 : x57 < n) (h71 : 0 < fs68.length) (h72 : mi_W d 173 598 [some (.ref l1), some (.int l2), some (.long l3), none, o4, o5, o6, o7] [] (n, sl, (va_up (va_up (va_up f x16 (.inl (2, m27, .inl (upd g27 i27 (vp_nar .boolean 1))))) x39 (.inl (3, m50, .inr (.inl (vp_updL g50 i50 l3))))) x57 (.inr (13, fs68.set 0 (.int (g64 i64)))))) Q) : mi_W d 173 508 [some (.ref l1), some (.int l2), some (.long l3), none, o4, o5, o6, o7] [] (n, sl, f) Q := by
  refine w_aload_n cd_173_508 rfl ?_
  refine w_getfield cd_173_509 (show mt_f 12 445 = some (12, 43) by decide +kernel) h9 h10 h12 ?_
  refine w_getfield cd_173_512 (show mt_f 12 465 = some (13, 6) by decide +kernel) h14 h15 h17 ?_
  refine w_aload_n cd_173_515 rfl ?_
  refine w_getfield cd_173_516 (show mt_f 12 80 = some (12, 13) by decide +kernel) h19 h20 h22 ?_
  refine w_iload_n cd_173_519 rfl ?_
  refine w_iaload cd_173_520 h24 h25 h26 ?_
  refine w_iconst (v := 1) cd_173_521 (by decide) ?_
  refine w_bastore2 cd_173_522 h28 h29 h30 ?_
  refine w_aload_n cd_173_523 rfl ?_
  refine w_getfield cd_173_524 (show mt_f 12 445 = some (12, 43) by decide +kernel) h32 h33 h35 ?_
  refine w_getfield cd_173_527 (show mt_f 12 468 = some (13, 4) by decide +kernel) h37 h38 h40 ?_
  refine w_aload_n cd_173_530 rfl ?_
  refine w_getfield cd_173_531 (show mt_f 12 80 = some (12, 13) by decide +kernel) h42 h43 h45 ?_
  refine w_iload_n cd_173_534 rfl ?_
  refine w_iaload cd_173_535 h47 h48 h49 ?_
  refine w_lload_n cd_173_536 rfl ?_
  refine w_lastore cd_173_537 h51 h52 h53 ?_
  refine w_aload_n cd_173_538 rfl ?_
  refine w_getfield cd_173_539 (show mt_f 12 445 = some (12, 43) by decide +kernel) h55 h56 h58 ?_
  refine w_aload_n cd_173_542 rfl ?_
  refine w_getfield cd_173_543 (show mt_f 12 98 = some (12, 19) by decide +kernel) h60 h61 h63 ?_
  refine w_iload_n cd_173_546 rfl ?_
  refine w_iaload cd_173_547 h65 h66 h67 ?_
  refine w_putfield (w := .int (g64 i64)) cd_173_548 (show mt_f 12 496 = some (13, 0) by decide +kernel) h69 h70 ⟨h71, rfl, Or.inl (by decide)⟩ ?_
  exact w_goto cd_173_551 (by decide) h72
theorem b_173_554 {d : Nat} {Q : (Option Value ⊕ Nat) → mi_H → Prop} (n sl : Nat) (f : Nat → mi_C) {l1 : Nat} {l2 : Int32} {o3 : Option Value} {o4 : Option Value} {o5 : Option Value} {o6 : Option Value} {o7 : Option Value} {o8 : Option Value} {fs9 : List Value} {x12 : Nat} (m14 i14 : Nat) (g14 : Nat → Int32) {fs18 : List Value} (h10 : f l1 = .inr (12, fs9)) (h11 : l1 < n) (h13 : fs9[16]? = some (.ref x12)) (h15 : f x12 = .inl (0, m14, .inl g14)) (h16 : x12 < n ∨ x12 = mi_SC) (h17 : mi_ix l2 m14 i14) (h19 : f l1 = .inr (12, fs18)) (h20 : l1 < n) (h21 : mi_W d 177 0 (mi_en 6 [.ref l1, .int (g14 i14)]) [] (n, sl, f) (mi_Kc d 173 561 [some (.ref l1), some (.int l2), o3, o4, o5, o6, o7, o8] [] Q)) : mi_W (d + 1) 173 554 [some (.ref l1), some (.int l2), o3, o4, o5, o6, o7, o8] [] (n, sl, f) Q := by
  refine w_aload_n cd_173_554 rfl ?_
  refine w_aload_n cd_173_555 rfl ?_
  refine w_getfield cd_173_556 (show mt_f 12 89 = some (12, 16) by decide +kernel) h10 h11 h13 ?_
  refine w_iload_n cd_173_559 rfl ?_
  refine w_iaload cd_173_560 h15 h16 h17 ?_
  exact w_invokevirtual cd_173_561 (show mt_m 12 477 = some (177, 0) by decide +kernel) (rest := []) rfl (as := [.ref l1, .int (g14 i14)]) rfl h19 (Or.inl h20) ⟨Nat.le_of_ble_eq_true rfl, Nat.le_of_ble_eq_true rfl, Nat.le_of_ble_eq_true rfl⟩ h21
theorem b_173_564 {d : Nat} {Q : (Option Value ⊕ Nat) → mi_H → Prop} (n sl : Nat) (f : Nat → mi_C) {l1 : Nat} {l2 : Int32} {o3 : Option Value} {o4 : Option Value} {o5 : Option Value} {o6 : Option Value} {o7 : Option Value} {o8 : Option Value} {s9 : Int32} {fs10 : List Value} {x13 : Int32} (h11 : f l1 = .inr (12, fs10)) (h12 : l1 < n) (h14 : fs10[46]? = some (.int x13)) (h15 : x13 = (0 : Int32) → mi_W d 173 575 [some (.ref l1), some (.int l2), some (.int s9), o4, o5, o6, o7, o8] [] (n, sl, f) Q) (h16 : ¬ (x13 = (0 : Int32)) → mi_W d 173 572 [some (.ref l1), some (.int l2), some (.int s9), o4, o5, o6, o7, o8] [] (n, sl, f) Q) : mi_W d 173 564 [some (.ref l1), some (.int l2), o3, o4, o5, o6, o7, o8] [.int s9] (n, sl, f) Q := by
  refine w_istore_n (ls' := [some (.ref l1), some (.int l2), some (.int s9), o4, o5, o6, o7, o8]) cd_173_564 (Nat.le_of_ble_eq_true rfl) rfl ?_
  refine w_aload_n cd_173_565 rfl ?_
  refine w_getfield cd_173_566 (show mt_f 12 441 = some (12, 46) by decide +kernel) h11 h12 h14 ?_
  exact w_ifeq cd_173_569 (by decide) h15 h16
theorem b_173_572 {d : Nat} {Q : (Option Value ⊕ Nat) → mi_H → Prop} (n sl : Nat) (f : Nat → mi_C) {l1 : Nat} {l2 : Int32} {l3 : Int32} {o4 : Option Value} {o5 : Option Value} {o6 : Option Value} {o7 : Option Value} {o8 : Option Value} (h9 : Q (.inl (some (.int 6))) (n, sl, f)) : mi_W d 173 572 [some (.ref l1), some (.int l2), some (.int l3), o4, o5, o6, o7, o8] [] (n, sl, f) Q := by
  refine w_bipush (v := 6) cd_173_572 (by decide) ?_
  exact w_ireturn_i cd_173_574 (by decide +kernel) h9
theorem b_173_575 {d : Nat} {Q : (Option Value ⊕ Nat) → mi_H → Prop} (n sl : Nat) (f : Nat → mi_C) {l1 : Nat} {l2 : Int32} {l3 : Int32} {o4 : Option Value} {o5 : Option Value} {o6 : Option Value} {o7 : Option Value} {o8 : Option Value} (h9 : ¬ l3 = (0 : Int32) → mi_W d 173 585 [some (.ref l1), some (.int l2), some (.int l3), o4, o5, o6, o7, o8] [] (n, sl, f) Q) (h10 : ¬ (¬ l3 = (0 : Int32)) → mi_W d 173 579 [some (.ref l1), some (.int l2), some (.int l3), o4, o5, o6, o7, o8] [] (n, sl, f) Q) : mi_W d 173 575 [some (.ref l1), some (.int l2), some (.int l3), o4, o5, o6, o7, o8] [] (n, sl, f) Q := by
  refine w_iload_n cd_173_575 rfl ?_
  exact w_ifne cd_173_576 (by decide) h9 h10
theorem b_173_579 {d : Nat} {Q : (Option Value ⊕ Nat) → mi_H → Prop} (n sl : Nat) (f : Nat → mi_C) {l1 : Nat} {l2 : Int32} {l3 : Int32} {o4 : Option Value} {o5 : Option Value} {o6 : Option Value} {o7 : Option Value} {o8 : Option Value} {fs9 : List Value} (h10 : f l1 = .inr (12, fs9)) (h11 : l1 < n) (h12 : mi_W d 180 0 (mi_en 3 [.ref l1, .int 5, .int l2]) [] (n, sl, f) (mi_Kc d 173 582 [some (.ref l1), some (.int l2), some (.int l3), o4, o5, o6, o7, o8] [] Q)) : mi_W (d + 1) 173 579 [some (.ref l1), some (.int l2), some (.int l3), o4, o5, o6, o7, o8] [] (n, sl, f) Q := by
  refine w_aload_n cd_173_579 rfl ?_
  refine w_iconst (v := 5) cd_173_580 (by decide) ?_
  refine w_iload_n cd_173_581 rfl ?_
  exact w_invokevirtual cd_173_582 (show mt_m 12 502 = some (180, 0) by decide +kernel) (rest := []) rfl (as := [.ref l1, .int 5, .int l2]) rfl h10 (Or.inl h11) ⟨Nat.le_of_ble_eq_true rfl, Nat.le_of_ble_eq_true rfl, Nat.le_of_ble_eq_true rfl⟩ h12
theorem b_173_585 {d : Nat} {Q : (Option Value ⊕ Nat) → mi_H → Prop} (n sl : Nat) (f : Nat → mi_C) {l1 : Nat} {l2 : Int32} {l3 : Int32} {o4 : Option Value} {o5 : Option Value} {o6 : Option Value} {o7 : Option Value} {o8 : Option Value} {fs9 : List Value} {x12 : Nat} {fs14 : List Value} {x17 : Nat} (m19 i19 : Nat) (g19 : Nat → Int32) {fs23 : List Value} (h10 : f l1 = .inr (12, fs9)) (h11 : l1 < n) (h13 : fs9[43]? = some (.ref x12)) (h15 : f l1 = .inr (12, fs14)) (h16 : l1 < n) (h18 : fs14[19]? = some (.ref x17)) (h20 : f x17 = .inl (0, m19, .inl g19)) (h21 : x17 < n ∨ x17 = mi_SC) (h22 : mi_ix l2 m19 i19) (h24 : f x12 = .inr (13, fs23)) (h25 : x12 < n) (h26 : 0 < fs23.length) (h27 : mi_W d 173 598 [some (.ref l1), some (.int l2), some (.int l3), o4, o5, o6, o7, o8] [] (n, sl, (va_up f x12 (.inr (13, fs23.set 0 (.int (g19 i19)))))) Q) : mi_W d 173 585 [some (.ref l1), some (.int l2), some (.int l3), o4, o5, o6, o7, o8] [] (n, sl, f) Q := by
  refine w_aload_n cd_173_585 rfl ?_
  refine w_getfield cd_173_586 (show mt_f 12 445 = some (12, 43) by decide +kernel) h10 h11 h13 ?_
  refine w_aload_n cd_173_589 rfl ?_
  refine w_getfield cd_173_590 (show mt_f 12 98 = some (12, 19) by decide +kernel) h15 h16 h18 ?_
  refine w_iload_n cd_173_593 rfl ?_
  refine w_iaload cd_173_594 h20 h21 h22 ?_
  refine w_putfield (w := .int (g19 i19)) cd_173_595 (show mt_f 12 496 = some (13, 0) by decide +kernel) h24 h25 ⟨h26, rfl, Or.inl (by decide)⟩ ?_
  exact h27
theorem b_173_598 {d : Nat} {Q : (Option Value ⊕ Nat) → mi_H → Prop} (n sl : Nat) (f : Nat → mi_C) {l1 : Nat} {l2 : Int32} {o3 : Option Value} {o4 : Option Value} {o5 : Option Value} {o6 : Option Value} {o7 : Option Value} {o8 : Option Value} {fs9 : List Value} (h10 : f l1 = .inr (12, fs9)) (h11 : l1 < n) (h12 : 58 < fs9.length) (h13 : mi_fk .boolean (.int 1) = true) (h14 : mi_W d 173 0 [some (.ref l1), some (.int l2), o3, o4, o5, o6, o7, o8] [] (n, sl, (va_up f l1 (.inr (12, fs9.set 58 (.int 1))))) Q) : mi_W d 173 598 [some (.ref l1), some (.int l2), o3, o4, o5, o6, o7, o8] [] (n, sl, f) Q := by
  refine w_aload_n cd_173_598 rfl ?_
  refine w_iconst (v := 1) cd_173_599 (by decide) ?_
  refine w_putfield (w := .int 1) cd_173_600 (show mt_f 12 506 = some (12, 58) by decide +kernel) h10 h11 ⟨h12, h13, Or.inl (by decide)⟩ ?_
  exact w_goto cd_173_603 (by decide) h14
/-! MarloweHostModel.pay(IIIJ)V -/
set_option maxRecDepth 100000 in
theorem mq_174 : mt_q 174 = my_174 := rfl
set_option maxRecDepth 100000 in
theorem ci_174 : mt_inc 0 my_174.cd = true := by decide +kernel
theorem cd_174_0 : mt_cd 174 0 = some (.aload_n 0) := mt_cd_of (q := (0, .aload_n 0, 1)) mq_174 ci_174 (List.mem_of_getElem? (i := 0) rfl)
theorem cd_174_1 : mt_cd 174 1 = some (.getfield 160) := mt_cd_of (q := (1, .getfield 160, 3)) mq_174 ci_174 (List.mem_of_getElem? (i := 1) rfl)
theorem cd_174_4 : mt_cd 174 4 = some (.aload_n 0) := mt_cd_of (q := (4, .aload_n 0, 1)) mq_174 ci_174 (List.mem_of_getElem? (i := 2) rfl)
theorem cd_174_5 : mt_cd 174 5 = some (.getfield 493) := mt_cd_of (q := (5, .getfield 493, 3)) mq_174 ci_174 (List.mem_of_getElem? (i := 3) rfl)
theorem cd_174_8 : mt_cd 174 8 = some (.iload_n 1) := mt_cd_of (q := (8, .iload_n 1, 1)) mq_174 ci_174 (List.mem_of_getElem? (i := 4) rfl)
theorem cd_174_9 : mt_cd 174 9 = some (.iastore) := mt_cd_of (q := (9, .iastore, 1)) mq_174 ci_174 (List.mem_of_getElem? (i := 5) rfl)
theorem cd_174_10 : mt_cd 174 10 = some (.aload_n 0) := mt_cd_of (q := (10, .aload_n 0, 1)) mq_174 ci_174 (List.mem_of_getElem? (i := 6) rfl)
theorem cd_174_11 : mt_cd 174 11 = some (.getfield 163) := mt_cd_of (q := (11, .getfield 163, 3)) mq_174 ci_174 (List.mem_of_getElem? (i := 7) rfl)
theorem cd_174_14 : mt_cd 174 14 = some (.aload_n 0) := mt_cd_of (q := (14, .aload_n 0, 1)) mq_174 ci_174 (List.mem_of_getElem? (i := 8) rfl)
theorem cd_174_15 : mt_cd 174 15 = some (.getfield 493) := mt_cd_of (q := (15, .getfield 493, 3)) mq_174 ci_174 (List.mem_of_getElem? (i := 9) rfl)
theorem cd_174_18 : mt_cd 174 18 = some (.iload_n 2) := mt_cd_of (q := (18, .iload_n 2, 1)) mq_174 ci_174 (List.mem_of_getElem? (i := 10) rfl)
theorem cd_174_19 : mt_cd 174 19 = some (.iastore) := mt_cd_of (q := (19, .iastore, 1)) mq_174 ci_174 (List.mem_of_getElem? (i := 11) rfl)
theorem cd_174_20 : mt_cd 174 20 = some (.aload_n 0) := mt_cd_of (q := (20, .aload_n 0, 1)) mq_174 ci_174 (List.mem_of_getElem? (i := 12) rfl)
theorem cd_174_21 : mt_cd 174 21 = some (.getfield 166) := mt_cd_of (q := (21, .getfield 166, 3)) mq_174 ci_174 (List.mem_of_getElem? (i := 13) rfl)
theorem cd_174_24 : mt_cd 174 24 = some (.aload_n 0) := mt_cd_of (q := (24, .aload_n 0, 1)) mq_174 ci_174 (List.mem_of_getElem? (i := 14) rfl)
theorem cd_174_25 : mt_cd 174 25 = some (.getfield 493) := mt_cd_of (q := (25, .getfield 493, 3)) mq_174 ci_174 (List.mem_of_getElem? (i := 15) rfl)
theorem cd_174_28 : mt_cd 174 28 = some (.iload_n 3) := mt_cd_of (q := (28, .iload_n 3, 1)) mq_174 ci_174 (List.mem_of_getElem? (i := 16) rfl)
theorem cd_174_29 : mt_cd 174 29 = some (.iastore) := mt_cd_of (q := (29, .iastore, 1)) mq_174 ci_174 (List.mem_of_getElem? (i := 17) rfl)
theorem cd_174_30 : mt_cd 174 30 = some (.aload_n 0) := mt_cd_of (q := (30, .aload_n 0, 1)) mq_174 ci_174 (List.mem_of_getElem? (i := 18) rfl)
theorem cd_174_31 : mt_cd 174 31 = some (.getfield 169) := mt_cd_of (q := (31, .getfield 169, 3)) mq_174 ci_174 (List.mem_of_getElem? (i := 19) rfl)
theorem cd_174_34 : mt_cd 174 34 = some (.aload_n 0) := mt_cd_of (q := (34, .aload_n 0, 1)) mq_174 ci_174 (List.mem_of_getElem? (i := 20) rfl)
theorem cd_174_35 : mt_cd 174 35 = some (.dup) := mt_cd_of (q := (35, .dup, 1)) mq_174 ci_174 (List.mem_of_getElem? (i := 21) rfl)
theorem cd_174_36 : mt_cd 174 36 = some (.getfield 493) := mt_cd_of (q := (36, .getfield 493, 3)) mq_174 ci_174 (List.mem_of_getElem? (i := 22) rfl)
theorem cd_174_39 : mt_cd 174 39 = some (.dup_x1) := mt_cd_of (q := (39, .dup_x1, 1)) mq_174 ci_174 (List.mem_of_getElem? (i := 23) rfl)
theorem cd_174_40 : mt_cd 174 40 = some (.iconst 1) := mt_cd_of (q := (40, .iconst 1, 1)) mq_174 ci_174 (List.mem_of_getElem? (i := 24) rfl)
theorem cd_174_41 : mt_cd 174 41 = some (.iadd) := mt_cd_of (q := (41, .iadd, 1)) mq_174 ci_174 (List.mem_of_getElem? (i := 25) rfl)
theorem cd_174_42 : mt_cd 174 42 = some (.putfield 493) := mt_cd_of (q := (42, .putfield 493, 3)) mq_174 ci_174 (List.mem_of_getElem? (i := 26) rfl)
theorem cd_174_45 : mt_cd 174 45 = some (.lload 4) := mt_cd_of (q := (45, .lload 4, 2)) mq_174 ci_174 (List.mem_of_getElem? (i := 27) rfl)
theorem cd_174_47 : mt_cd 174 47 = some (.lastore) := mt_cd_of (q := (47, .lastore, 1)) mq_174 ci_174 (List.mem_of_getElem? (i := 28) rfl)
theorem cd_174_48 : mt_cd 174 48 = some (.return_) := mt_cd_of (q := (48, .return_, 1)) mq_174 ci_174 (List.mem_of_getElem? (i := 29) rfl)
theorem b_174_0 {d : Nat} {Q : (Option Value ⊕ Nat) → mi_H → Prop} (n sl : Nat) (f : Nat → mi_C) {l1 : Nat} {l2 : Int32} {l3 : Int32} {l4 : Int32} {l5 : Int64} {fs6 : List Value} {x9 : Nat} {fs11 : List Value} {x14 : Int32} (m16 i16 : Nat) (g16 : Nat → Int32) {fs20 : List Value} {x23 : Nat} {fs25 : List Value} {x28 : Int32} (m30 i30 : Nat) (g30 : Nat → Int32) {fs34 : List Value} {x37 : Nat} {fs39 : List Value} {x42 : Int32} (m44 i44 : Nat) (g44 : Nat → Int32) {fs48 : List Value} {x51 : Nat} {fs53 : List Value} {x56 : Int32} {fs58 : List Value} (m62 i62 : Nat) (g62 : Nat → Int64) (h7 : f l1 = .inr (12, fs6)) (h8 : l1 < n) (h10 : fs6[51]? = some (.ref x9)) (h12 : f l1 = .inr (12, fs11)) (h13 : l1 < n) (h15 : fs11[48]? = some (.int x14)) (h17 : f x9 = .inl (0, m16, .inl g16)) (h18 : x9 < n) (h19 : mi_ix x14 m16 i16) (h21 : (va_up f x9 (.inl (0, m16, .inl (upd g16 i16 l2)))) l1 = .inr (12, fs20)) (h22 : l1 < n) (h24 : fs20[52]? = some (.ref x23)) (h26 : (va_up f x9 (.inl (0, m16, .inl (upd g16 i16 l2)))) l1 = .inr (12, fs25)) (h27 : l1 < n) (h29 : fs25[48]? = some (.int x28)) (h31 : (va_up f x9 (.inl (0, m16, .inl (upd g16 i16 l2)))) x23 = .inl (0, m30, .inl g30)) (h32 : x23 < n) (h33 : mi_ix x28 m30 i30) (h35 : (va_up (va_up f x9 (.inl (0, m16, .inl (upd g16 i16 l2)))) x23 (.inl (0, m30, .inl (upd g30 i30 l3)))) l1 = .inr (12, fs34)) (h36 : l1 < n) (h38 : fs34[53]? = some (.ref x37)) (h40 : (va_up (va_up f x9 (.inl (0, m16, .inl (upd g16 i16 l2)))) x23 (.inl (0, m30, .inl (upd g30 i30 l3)))) l1 = .inr (12, fs39)) (h41 : l1 < n) (h43 : fs39[48]? = some (.int x42)) (h45 : (va_up (va_up f x9 (.inl (0, m16, .inl (upd g16 i16 l2)))) x23 (.inl (0, m30, .inl (upd g30 i30 l3)))) x37 = .inl (0, m44, .inl g44)) (h46 : x37 < n) (h47 : mi_ix x42 m44 i44) (h49 : (va_up (va_up (va_up f x9 (.inl (0, m16, .inl (upd g16 i16 l2)))) x23 (.inl (0, m30, .inl (upd g30 i30 l3)))) x37 (.inl (0, m44, .inl (upd g44 i44 l4)))) l1 = .inr (12, fs48)) (h50 : l1 < n) (h52 : fs48[54]? = some (.ref x51)) (h54 : (va_up (va_up (va_up f x9 (.inl (0, m16, .inl (upd g16 i16 l2)))) x23 (.inl (0, m30, .inl (upd g30 i30 l3)))) x37 (.inl (0, m44, .inl (upd g44 i44 l4)))) l1 = .inr (12, fs53)) (h55 : l1 < n) (h57 : fs53[48]? = some (.int x56)) (h59 : (va_up (va_up (va_up f x9 (.inl (0, m16, .inl (upd g16 i16 l2)))) x23 (.inl (0, m30, .inl (upd g30 i30 l3)))) x37 (.inl (0, m44, .inl (upd g44 i44 l4)))) l1 = .inr (12, fs58)) (h60 : l1 < n) (h61 : 48 < fs58.length) (h63 : (va_up (va_up (va_up (va_up f x9 (.inl (0, m16, .inl (upd g16 i16 l2)))) x23 (.inl (0, m30, .inl (upd g30 i30 l3)))) x37 (.inl (0, m44, .inl (upd g44 i44 l4)))) l1 (.inr (12, fs58.set 48 (.int (x56 + 1))))) x51 = .inl (3, m62, .inr (.inl g62))) (h64 : x51 < n) (h65 : mi_ix x56 m62 i62) (h66 : Q (.inl none) (n, sl, (va_up (va_up (va_up (va_up (va_up f x9 (.inl (0, m16, .inl (upd g16 i16 l2)))) x23 (.inl (0, m30, .inl (upd g30 i30 l3)))) x37 (.inl (0, m44, .inl (upd g44 i44 l4)))) l1 (.inr (12, fs58.set 48 (.int (x56 + 1))))) x51 (.inl (3, m62, .inr (.inl (vp_updL g62 i62 l5))))))) : mi_W d 174 0 [some (.ref l1), some (.int l2), some (.int l3), some (.int l4), some (.long l5), none] [] (n, sl, f) Q := by
  refine w_aload_n cd_174_0 rfl ?_
  refine w_getfield cd_174_1 (show mt_f 12 160 = some (12, 51) by decide +kernel) h7 h8 h10 ?_
  refine w_aload_n cd_174_4 rfl ?_
  refine w_getfield cd_174_5 (show mt_f 12 493 = some (12, 48) by decide +kernel) h12 h13 h15 ?_
  refine w_iload_n cd_174_8 rfl ?_
  refine w_iastore cd_174_9 h17 h18 h19 ?_
  refine w_aload_n cd_174_10 rfl ?_
  refine w_getfield cd_174_11 (show mt_f 12 163 = some (12, 52) by decide +kernel) h21 h22 h24 ?_
  refine w_aload_n cd_174_14 rfl ?_
  refine w_getfield cd_174_15 (show mt_f 12 493 = some (12, 48) by decide +kernel) h26 h27 h29 ?_
  refine w_iload_n cd_174_18 rfl ?_
  refine w_iastore cd_174_19 h31 h32 h33 ?_
  refine w_aload_n cd_174_20 rfl ?_
  refine w_getfield cd_174_21 (show mt_f 12 166 = some (12, 53) by decide +kernel) h35 h36 h38 ?_
  refine w_aload_n cd_174_24 rfl ?_
  refine w_getfield cd_174_25 (show mt_f 12 493 = some (12, 48) by decide +kernel) h40 h41 h43 ?_
  refine w_iload_n cd_174_28 rfl ?_
  refine w_iastore cd_174_29 h45 h46 h47 ?_
  refine w_aload_n cd_174_30 rfl ?_
  refine w_getfield cd_174_31 (show mt_f 12 169 = some (12, 54) by decide +kernel) h49 h50 h52 ?_
  refine w_aload_n cd_174_34 rfl ?_
  refine w_dup_r cd_174_35 ?_
  refine w_getfield cd_174_36 (show mt_f 12 493 = some (12, 48) by decide +kernel) h54 h55 h57 ?_
  refine w_dup_x1_ir cd_174_39 ?_
  refine w_iconst (v := 1) cd_174_40 (by decide) ?_
  refine w_iadd cd_174_41 ?_
  refine w_putfield (w := .int (x56 + 1)) cd_174_42 (show mt_f 12 493 = some (12, 48) by decide +kernel) h59 h60 ⟨h61, rfl, Or.inl (by decide)⟩ ?_
  refine w_lload cd_174_45 rfl ?_
  refine w_lastore cd_174_47 h63 h64 h65 ?_
  exact w_return cd_174_48 (by decide +kernel) h66
/-! MarloweHostModel.tell(I)J -/
set_option maxRecDepth 100000 in
theorem mq_175 : mt_q 175 = my_175 := rfl
set_option maxRecDepth 100000 in
theorem ci_175 : mt_inc 0 my_175.cd = true := by decide +kernel
theorem cd_175_0 : mt_cd 175 0 = some (.aload_n 0) := mt_cd_of (q := (0, .aload_n 0, 1)) mq_175 ci_175 (List.mem_append_left _ (show _ ∈ my_175_0 from List.mem_of_getElem? (i := 0) rfl))
theorem cd_175_1 : mt_cd 175 1 = some (.getfield 441) := mt_cd_of (q := (1, .getfield 441, 3)) mq_175 ci_175 (List.mem_append_left _ (show _ ∈ my_175_0 from List.mem_of_getElem? (i := 1) rfl))
theorem cd_175_4 : mt_cd 175 4 = some (.ifCond .eq 5) := mt_cd_of (q := (4, .ifCond .eq 5, 3)) mq_175 ci_175 (List.mem_append_left _ (show _ ∈ my_175_0 from List.mem_of_getElem? (i := 2) rfl))
theorem cd_175_7 : mt_cd 175 7 = some (.lconst 0) := mt_cd_of (q := (7, .lconst 0, 1)) mq_175 ci_175 (List.mem_append_left _ (show _ ∈ my_175_0 from List.mem_of_getElem? (i := 3) rfl))
theorem cd_175_8 : mt_cd 175 8 = some (.lreturn) := mt_cd_of (q := (8, .lreturn, 1)) mq_175 ci_175 (List.mem_append_left _ (show _ ∈ my_175_0 from List.mem_of_getElem? (i := 4) rfl))
theorem cd_175_9 : mt_cd 175 9 = some (.aload_n 0) := mt_cd_of (q := (9, .aload_n 0, 1)) mq_175 ci_175 (List.mem_append_left _ (show _ ∈ my_175_0 from List.mem_of_getElem? (i := 5) rfl))
theorem cd_175_10 : mt_cd 175 10 = some (.getfield 77) := mt_cd_of (q := (10, .getfield 77, 3)) mq_175 ci_175 (List.mem_append_left _ (show _ ∈ my_175_0 from List.mem_of_getElem? (i := 6) rfl))
theorem cd_175_13 : mt_cd 175 13 = some (.iload_n 1) := mt_cd_of (q := (13, .iload_n 1, 1)) mq_175 ci_175 (List.mem_append_left _ (show _ ∈ my_175_0 from List.mem_of_getElem? (i := 7) rfl))
theorem cd_175_14 : mt_cd 175 14 = some (.iaload) := mt_cd_of (q := (14, .iaload, 1)) mq_175 ci_175 (List.mem_append_left _ (show _ ∈ my_175_0 from List.mem_of_getElem? (i := 8) rfl))
theorem cd_175_15 : mt_cd 175 15 = some (.tableswitch 235 10 21 #[61, 68, 92, 235, 235, 235, 235, 108, 144, 180, 189, 198]) := mt_cd_of (q := (15, .tableswitch 235 10 21 #[61, 68, 92, 235, 235, 235, 235, 108, 144, 180, 189, 198], 61)) mq_175 ci_175 (List.mem_append_left _ (show _ ∈ my_175_0 from List.mem_of_getElem? (i := 9) rfl))
theorem cd_175_76 : mt_cd 175 76 = some (.aload_n 0) := mt_cd_of (q := (76, .aload_n 0, 1)) mq_175 ci_175 (List.mem_append_left _ (show _ ∈ my_175_0 from List.mem_of_getElem? (i := 10) rfl))
theorem cd_175_77 : mt_cd 175 77 = some (.getfield 101) := mt_cd_of (q := (77, .getfield 101, 3)) mq_175 ci_175 (List.mem_append_left _ (show _ ∈ my_175_0 from List.mem_of_getElem? (i := 11) rfl))
theorem cd_175_80 : mt_cd 175 80 = some (.iload_n 1) := mt_cd_of (q := (80, .iload_n 1, 1)) mq_175 ci_175 (List.mem_append_left _ (show _ ∈ my_175_0 from List.mem_of_getElem? (i := 12) rfl))
theorem cd_175_81 : mt_cd 175 81 = some (.laload) := mt_cd_of (q := (81, .laload, 1)) mq_175 ci_175 (List.mem_append_left _ (show _ ∈ my_175_0 from List.mem_of_getElem? (i := 13) rfl))
theorem cd_175_82 : mt_cd 175 82 = some (.lreturn) := mt_cd_of (q := (82, .lreturn, 1)) mq_175 ci_175 (List.mem_append_left _ (show _ ∈ my_175_0 from List.mem_of_getElem? (i := 14) rfl))
theorem cd_175_83 : mt_cd 175 83 = some (.aload_n 0) := mt_cd_of (q := (83, .aload_n 0, 1)) mq_175 ci_175 (List.mem_append_left _ (show _ ∈ my_175_0 from List.mem_of_getElem? (i := 15) rfl))
theorem cd_175_84 : mt_cd 175 84 = some (.getfield 445) := mt_cd_of (q := (84, .getfield 445, 3)) mq_175 ci_175 (List.mem_append_left _ (show _ ∈ my_175_0 from List.mem_of_getElem? (i := 16) rfl))
theorem cd_175_87 : mt_cd 175 87 = some (.getfield 448) := mt_cd_of (q := (87, .getfield 448, 3)) mq_175 ci_175 (List.mem_append_left _ (show _ ∈ my_175_0 from List.mem_of_getElem? (i := 17) rfl))
theorem cd_175_90 : mt_cd 175 90 = some (.iconst 4) := mt_cd_of (q := (90, .iconst 4, 1)) mq_175 ci_175 (List.mem_append_left _ (show _ ∈ my_175_0 from List.mem_of_getElem? (i := 18) rfl))
theorem cd_175_91 : mt_cd 175 91 = some (.aload_n 0) := mt_cd_of (q := (91, .aload_n 0, 1)) mq_175 ci_175 (List.mem_append_left _ (show _ ∈ my_175_0 from List.mem_of_getElem? (i := 19) rfl))
theorem cd_175_92 : mt_cd 175 92 = some (.getfield 80) := mt_cd_of (q := (92, .getfield 80, 3)) mq_175 ci_175 (List.mem_append_left _ (show _ ∈ my_175_0 from List.mem_of_getElem? (i := 20) rfl))
theorem cd_175_95 : mt_cd 175 95 = some (.iload_n 1) := mt_cd_of (q := (95, .iload_n 1, 1)) mq_175 ci_175 (List.mem_append_left _ (show _ ∈ my_175_0 from List.mem_of_getElem? (i := 21) rfl))
theorem cd_175_96 : mt_cd 175 96 = some (.iaload) := mt_cd_of (q := (96, .iaload, 1)) mq_175 ci_175 (List.mem_append_left _ (show _ ∈ my_175_0 from List.mem_of_getElem? (i := 22) rfl))
theorem cd_175_97 : mt_cd 175 97 = some (.imul) := mt_cd_of (q := (97, .imul, 1)) mq_175 ci_175 (List.mem_append_left _ (show _ ∈ my_175_0 from List.mem_of_getElem? (i := 23) rfl))
theorem cd_175_98 : mt_cd 175 98 = some (.aload_n 0) := mt_cd_of (q := (98, .aload_n 0, 1)) mq_175 ci_175 (List.mem_append_left _ (show _ ∈ my_175_0 from List.mem_of_getElem? (i := 24) rfl))
theorem cd_175_99 : mt_cd 175 99 = some (.getfield 86) := mt_cd_of (q := (99, .getfield 86, 3)) mq_175 ci_175 (List.mem_append_left _ (show _ ∈ my_175_0 from List.mem_of_getElem? (i := 25) rfl))
theorem cd_175_102 : mt_cd 175 102 = some (.iload_n 1) := mt_cd_of (q := (102, .iload_n 1, 1)) mq_175 ci_175 (List.mem_append_left _ (show _ ∈ my_175_0 from List.mem_of_getElem? (i := 26) rfl))
theorem cd_175_103 : mt_cd 175 103 = some (.iaload) := mt_cd_of (q := (103, .iaload, 1)) mq_175 ci_175 (List.mem_append_left _ (show _ ∈ my_175_0 from List.mem_of_getElem? (i := 27) rfl))
theorem cd_175_104 : mt_cd 175 104 = some (.iadd) := mt_cd_of (q := (104, .iadd, 1)) mq_175 ci_175 (List.mem_append_left _ (show _ ∈ my_175_0 from List.mem_of_getElem? (i := 28) rfl))
theorem cd_175_105 : mt_cd 175 105 = some (.laload) := mt_cd_of (q := (105, .laload, 1)) mq_175 ci_175 (List.mem_append_left _ (show _ ∈ my_175_0 from List.mem_of_getElem? (i := 29) rfl))
theorem cd_175_106 : mt_cd 175 106 = some (.lreturn) := mt_cd_of (q := (106, .lreturn, 1)) mq_175 ci_175 (List.mem_append_left _ (show _ ∈ my_175_0 from List.mem_of_getElem? (i := 30) rfl))
theorem cd_175_107 : mt_cd 175 107 = some (.aload_n 0) := mt_cd_of (q := (107, .aload_n 0, 1)) mq_175 ci_175 (List.mem_append_left _ (show _ ∈ my_175_0 from List.mem_of_getElem? (i := 31) rfl))
theorem cd_175_108 : mt_cd 175 108 = some (.aload_n 0) := mt_cd_of (q := (108, .aload_n 0, 1)) mq_175 ci_175 (List.mem_append_left _ (show _ ∈ my_175_0 from List.mem_of_getElem? (i := 32) rfl))
theorem cd_175_109 : mt_cd 175 109 = some (.aload_n 0) := mt_cd_of (q := (109, .aload_n 0, 1)) mq_175 ci_175 (List.mem_append_left _ (show _ ∈ my_175_0 from List.mem_of_getElem? (i := 33) rfl))
theorem cd_175_110 : mt_cd 175 110 = some (.getfield 80) := mt_cd_of (q := (110, .getfield 80, 3)) mq_175 ci_175 (List.mem_append_left _ (show _ ∈ my_175_0 from List.mem_of_getElem? (i := 34) rfl))
theorem cd_175_113 : mt_cd 175 113 = some (.iload_n 1) := mt_cd_of (q := (113, .iload_n 1, 1)) mq_175 ci_175 (List.mem_append_left _ (show _ ∈ my_175_0 from List.mem_of_getElem? (i := 35) rfl))
theorem cd_175_114 : mt_cd 175 114 = some (.iaload) := mt_cd_of (q := (114, .iaload, 1)) mq_175 ci_175 (List.mem_append_left _ (show _ ∈ my_175_0 from List.mem_of_getElem? (i := 36) rfl))
theorem cd_175_115 : mt_cd 175 115 = some (.invokevirtual 451) := mt_cd_of (q := (115, .invokevirtual 451, 3)) mq_175 ci_175 (List.mem_append_left _ (show _ ∈ my_175_0 from List.mem_of_getElem? (i := 37) rfl))
theorem cd_175_118 : mt_cd 175 118 = some (.lneg) := mt_cd_of (q := (118, .lneg, 1)) mq_175 ci_175 (List.mem_append_left _ (show _ ∈ my_175_0 from List.mem_of_getElem? (i := 38) rfl))
theorem cd_175_119 : mt_cd 175 119 = some (.invokevirtual 455) := mt_cd_of (q := (119, .invokevirtual 455, 3)) mq_175 ci_175 (List.mem_append_left _ (show _ ∈ my_175_0 from List.mem_of_getElem? (i := 39) rfl))
theorem cd_175_122 : mt_cd 175 122 = some (.lreturn) := mt_cd_of (q := (122, .lreturn, 1)) mq_175 ci_175 (List.mem_append_left _ (show _ ∈ my_175_0 from List.mem_of_getElem? (i := 40) rfl))
theorem cd_175_123 : mt_cd 175 123 = some (.aload_n 0) := mt_cd_of (q := (123, .aload_n 0, 1)) mq_175 ci_175 (List.mem_append_left _ (show _ ∈ my_175_0 from List.mem_of_getElem? (i := 41) rfl))
theorem cd_175_124 : mt_cd 175 124 = some (.getfield 445) := mt_cd_of (q := (124, .getfield 445, 3)) mq_175 ci_175 (List.mem_append_left _ (show _ ∈ my_175_0 from List.mem_of_getElem? (i := 42) rfl))
theorem cd_175_127 : mt_cd 175 127 = some (.getfield 459) := mt_cd_of (q := (127, .getfield 459, 3)) mq_175 ci_175 (List.mem_append_left _ (show _ ∈ my_175_0 from List.mem_of_getElem? (i := 43) rfl))
theorem cd_175_130 : mt_cd 175 130 = some (.aload_n 0) := mt_cd_of (q := (130, .aload_n 0, 1)) mq_175 ci_175 (List.mem_append_left _ (show _ ∈ my_175_0 from List.mem_of_getElem? (i := 44) rfl))
theorem cd_175_131 : mt_cd 175 131 = some (.getfield 80) := mt_cd_of (q := (131, .getfield 80, 3)) mq_175 ci_175 (List.mem_append_left _ (show _ ∈ my_175_0 from List.mem_of_getElem? (i := 45) rfl))
theorem cd_175_134 : mt_cd 175 134 = some (.iload_n 1) := mt_cd_of (q := (134, .iload_n 1, 1)) mq_175 ci_175 (List.mem_append_left _ (show _ ∈ my_175_0 from List.mem_of_getElem? (i := 46) rfl))
theorem cd_175_135 : mt_cd 175 135 = some (.iaload) := mt_cd_of (q := (135, .iaload, 1)) mq_175 ci_175 (List.mem_append_left _ (show _ ∈ my_175_0 from List.mem_of_getElem? (i := 47) rfl))
theorem cd_175_136 : mt_cd 175 136 = some (.baload) := mt_cd_of (q := (136, .baload, 1)) mq_175 ci_175 (List.mem_append_left _ (show _ ∈ my_175_0 from List.mem_of_getElem? (i := 48) rfl))
theorem cd_175_137 : mt_cd 175 137 = some (.ifCond .eq 20) := mt_cd_of (q := (137, .ifCond .eq 20, 3)) mq_175 ci_175 (List.mem_append_left _ (show _ ∈ my_175_0 from List.mem_of_getElem? (i := 49) rfl))
theorem cd_175_140 : mt_cd 175 140 = some (.aload_n 0) := mt_cd_of (q := (140, .aload_n 0, 1)) mq_175 ci_175 (List.mem_append_left _ (show _ ∈ my_175_0 from List.mem_of_getElem? (i := 50) rfl))
theorem cd_175_141 : mt_cd 175 141 = some (.getfield 445) := mt_cd_of (q := (141, .getfield 445, 3)) mq_175 ci_175 (List.mem_append_left _ (show _ ∈ my_175_0 from List.mem_of_getElem? (i := 51) rfl))
theorem cd_175_144 : mt_cd 175 144 = some (.getfield 463) := mt_cd_of (q := (144, .getfield 463, 3)) mq_175 ci_175 (List.mem_append_left _ (show _ ∈ my_175_0 from List.mem_of_getElem? (i := 52) rfl))
theorem cd_175_147 : mt_cd 175 147 = some (.aload_n 0) := mt_cd_of (q := (147, .aload_n 0, 1)) mq_175 ci_175 (List.mem_append_left _ (show _ ∈ my_175_0 from List.mem_of_getElem? (i := 53) rfl))
theorem cd_175_148 : mt_cd 175 148 = some (.getfield 80) := mt_cd_of (q := (148, .getfield 80, 3)) mq_175 ci_175 (List.mem_append_left _ (show _ ∈ my_175_0 from List.mem_of_getElem? (i := 54) rfl))
theorem cd_175_151 : mt_cd 175 151 = some (.iload_n 1) := mt_cd_of (q := (151, .iload_n 1, 1)) mq_175 ci_175 (List.mem_append_left _ (show _ ∈ my_175_0 from List.mem_of_getElem? (i := 55) rfl))
theorem cd_175_152 : mt_cd 175 152 = some (.iaload) := mt_cd_of (q := (152, .iaload, 1)) mq_175 ci_175 (List.mem_append_left _ (show _ ∈ my_175_0 from List.mem_of_getElem? (i := 56) rfl))
theorem cd_175_153 : mt_cd 175 153 = some (.laload) := mt_cd_of (q := (153, .laload, 1)) mq_175 ci_175 (List.mem_append_left _ (show _ ∈ my_175_0 from List.mem_of_getElem? (i := 57) rfl))
theorem cd_175_154 : mt_cd 175 154 = some (.goto 4) := mt_cd_of (q := (154, .goto 4, 3)) mq_175 ci_175 (List.mem_append_left _ (show _ ∈ my_175_0 from List.mem_of_getElem? (i := 58) rfl))
theorem cd_175_157 : mt_cd 175 157 = some (.lconst 0) := mt_cd_of (q := (157, .lconst 0, 1)) mq_175 ci_175 (List.mem_append_left _ (show _ ∈ my_175_0 from List.mem_of_getElem? (i := 59) rfl))
theorem cd_175_158 : mt_cd 175 158 = some (.lreturn) := mt_cd_of (q := (158, .lreturn, 1)) mq_175 ci_175 (List.mem_append_right _ (List.mem_append_left _ (show _ ∈ my_175_1 from List.mem_of_getElem? (i := 0) rfl)))
theorem cd_175_159 : mt_cd 175 159 = some (.aload_n 0) := mt_cd_of (q := (159, .aload_n 0, 1)) mq_175 ci_175 (List.mem_append_right _ (List.mem_append_left _ (show _ ∈ my_175_1 from List.mem_of_getElem? (i := 1) rfl)))
theorem cd_175_160 : mt_cd 175 160 = some (.getfield 445) := mt_cd_of (q := (160, .getfield 445, 3)) mq_175 ci_175 (List.mem_append_right _ (List.mem_append_left _ (show _ ∈ my_175_1 from List.mem_of_getElem? (i := 2) rfl)))
theorem cd_175_163 : mt_cd 175 163 = some (.getfield 465) := mt_cd_of (q := (163, .getfield 465, 3)) mq_175 ci_175 (List.mem_append_right _ (List.mem_append_left _ (show _ ∈ my_175_1 from List.mem_of_getElem? (i := 3) rfl)))
theorem cd_175_166 : mt_cd 175 166 = some (.aload_n 0) := mt_cd_of (q := (166, .aload_n 0, 1)) mq_175 ci_175 (List.mem_append_right _ (List.mem_append_left _ (show _ ∈ my_175_1 from List.mem_of_getElem? (i := 4) rfl)))
theorem cd_175_167 : mt_cd 175 167 = some (.getfield 80) := mt_cd_of (q := (167, .getfield 80, 3)) mq_175 ci_175 (List.mem_append_right _ (List.mem_append_left _ (show _ ∈ my_175_1 from List.mem_of_getElem? (i := 5) rfl)))
theorem cd_175_170 : mt_cd 175 170 = some (.iload_n 1) := mt_cd_of (q := (170, .iload_n 1, 1)) mq_175 ci_175 (List.mem_append_right _ (List.mem_append_left _ (show _ ∈ my_175_1 from List.mem_of_getElem? (i := 6) rfl)))
theorem cd_175_171 : mt_cd 175 171 = some (.iaload) := mt_cd_of (q := (171, .iaload, 1)) mq_175 ci_175 (List.mem_append_right _ (List.mem_append_left _ (show _ ∈ my_175_1 from List.mem_of_getElem? (i := 7) rfl)))
theorem cd_175_172 : mt_cd 175 172 = some (.baload) := mt_cd_of (q := (172, .baload, 1)) mq_175 ci_175 (List.mem_append_right _ (List.mem_append_left _ (show _ ∈ my_175_1 from List.mem_of_getElem? (i := 8) rfl)))
theorem cd_175_173 : mt_cd 175 173 = some (.ifCond .eq 20) := mt_cd_of (q := (173, .ifCond .eq 20, 3)) mq_175 ci_175 (List.mem_append_right _ (List.mem_append_left _ (show _ ∈ my_175_1 from List.mem_of_getElem? (i := 9) rfl)))
theorem cd_175_176 : mt_cd 175 176 = some (.aload_n 0) := mt_cd_of (q := (176, .aload_n 0, 1)) mq_175 ci_175 (List.mem_append_right _ (List.mem_append_left _ (show _ ∈ my_175_1 from List.mem_of_getElem? (i := 10) rfl)))
theorem cd_175_177 : mt_cd 175 177 = some (.getfield 445) := mt_cd_of (q := (177, .getfield 445, 3)) mq_175 ci_175 (List.mem_append_right _ (List.mem_append_left _ (show _ ∈ my_175_1 from List.mem_of_getElem? (i := 11) rfl)))
theorem cd_175_180 : mt_cd 175 180 = some (.getfield 468) := mt_cd_of (q := (180, .getfield 468, 3)) mq_175 ci_175 (List.mem_append_right _ (List.mem_append_left _ (show _ ∈ my_175_1 from List.mem_of_getElem? (i := 12) rfl)))
theorem cd_175_183 : mt_cd 175 183 = some (.aload_n 0) := mt_cd_of (q := (183, .aload_n 0, 1)) mq_175 ci_175 (List.mem_append_right _ (List.mem_append_left _ (show _ ∈ my_175_1 from List.mem_of_getElem? (i := 13) rfl)))
theorem cd_175_184 : mt_cd 175 184 = some (.getfield 80) := mt_cd_of (q := (184, .getfield 80, 3)) mq_175 ci_175 (List.mem_append_right _ (List.mem_append_left _ (show _ ∈ my_175_1 from List.mem_of_getElem? (i := 14) rfl)))
theorem cd_175_187 : mt_cd 175 187 = some (.iload_n 1) := mt_cd_of (q := (187, .iload_n 1, 1)) mq_175 ci_175 (List.mem_append_right _ (List.mem_append_left _ (show _ ∈ my_175_1 from List.mem_of_getElem? (i := 15) rfl)))
theorem cd_175_188 : mt_cd 175 188 = some (.iaload) := mt_cd_of (q := (188, .iaload, 1)) mq_175 ci_175 (List.mem_append_right _ (List.mem_append_left _ (show _ ∈ my_175_1 from List.mem_of_getElem? (i := 16) rfl)))
theorem cd_175_189 : mt_cd 175 189 = some (.laload) := mt_cd_of (q := (189, .laload, 1)) mq_175 ci_175 (List.mem_append_right _ (List.mem_append_left _ (show _ ∈ my_175_1 from List.mem_of_getElem? (i := 17) rfl)))
theorem cd_175_190 : mt_cd 175 190 = some (.goto 4) := mt_cd_of (q := (190, .goto 4, 3)) mq_175 ci_175 (List.mem_append_right _ (List.mem_append_left _ (show _ ∈ my_175_1 from List.mem_of_getElem? (i := 18) rfl)))
theorem cd_175_193 : mt_cd 175 193 = some (.lconst 0) := mt_cd_of (q := (193, .lconst 0, 1)) mq_175 ci_175 (List.mem_append_right _ (List.mem_append_left _ (show _ ∈ my_175_1 from List.mem_of_getElem? (i := 19) rfl)))
theorem cd_175_194 : mt_cd 175 194 = some (.lreturn) := mt_cd_of (q := (194, .lreturn, 1)) mq_175 ci_175 (List.mem_append_right _ (List.mem_append_left _ (show _ ∈ my_175_1 from List.mem_of_getElem? (i := 20) rfl)))
theorem cd_175_195 : mt_cd 175 195 = some (.aload_n 0) := mt_cd_of (q := (195, .aload_n 0, 1)) mq_175 ci_175 (List.mem_append_right _ (List.mem_append_left _ (show _ ∈ my_175_1 from List.mem_of_getElem? (i := 21) rfl)))
theorem cd_175_196 : mt_cd 175 196 = some (.aload_n 0) := mt_cd_of (q := (196, .aload_n 0, 1)) mq_175 ci_175 (List.mem_append_right _ (List.mem_append_left _ (show _ ∈ my_175_1 from List.mem_of_getElem? (i := 22) rfl)))
theorem cd_175_197 : mt_cd 175 197 = some (.getfield 471) := mt_cd_of (q := (197, .getfield 471, 3)) mq_175 ci_175 (List.mem_append_right _ (List.mem_append_left _ (show _ ∈ my_175_1 from List.mem_of_getElem? (i := 23) rfl)))
theorem cd_175_200 : mt_cd 175 200 = some (.invokevirtual 455) := mt_cd_of (q := (200, .invokevirtual 455, 3)) mq_175 ci_175 (List.mem_append_right _ (List.mem_append_left _ (show _ ∈ my_175_1 from List.mem_of_getElem? (i := 24) rfl)))
theorem cd_175_203 : mt_cd 175 203 = some (.lreturn) := mt_cd_of (q := (203, .lreturn, 1)) mq_175 ci_175 (List.mem_append_right _ (List.mem_append_left _ (show _ ∈ my_175_1 from List.mem_of_getElem? (i := 25) rfl)))
theorem cd_175_204 : mt_cd 175 204 = some (.aload_n 0) := mt_cd_of (q := (204, .aload_n 0, 1)) mq_175 ci_175 (List.mem_append_right _ (List.mem_append_left _ (show _ ∈ my_175_1 from List.mem_of_getElem? (i := 26) rfl)))
theorem cd_175_205 : mt_cd 175 205 = some (.aload_n 0) := mt_cd_of (q := (205, .aload_n 0, 1)) mq_175 ci_175 (List.mem_append_right _ (List.mem_append_left _ (show _ ∈ my_175_1 from List.mem_of_getElem? (i := 27) rfl)))
theorem cd_175_206 : mt_cd 175 206 = some (.getfield 474) := mt_cd_of (q := (206, .getfield 474, 3)) mq_175 ci_175 (List.mem_append_right _ (List.mem_append_left _ (show _ ∈ my_175_1 from List.mem_of_getElem? (i := 28) rfl)))
theorem cd_175_209 : mt_cd 175 209 = some (.invokevirtual 455) := mt_cd_of (q := (209, .invokevirtual 455, 3)) mq_175 ci_175 (List.mem_append_right _ (List.mem_append_left _ (show _ ∈ my_175_1 from List.mem_of_getElem? (i := 29) rfl)))
theorem cd_175_212 : mt_cd 175 212 = some (.lreturn) := mt_cd_of (q := (212, .lreturn, 1)) mq_175 ci_175 (List.mem_append_right _ (List.mem_append_left _ (show _ ∈ my_175_1 from List.mem_of_getElem? (i := 30) rfl)))
theorem cd_175_213 : mt_cd 175 213 = some (.aload_n 0) := mt_cd_of (q := (213, .aload_n 0, 1)) mq_175 ci_175 (List.mem_append_right _ (List.mem_append_left _ (show _ ∈ my_175_1 from List.mem_of_getElem? (i := 31) rfl)))
theorem cd_175_214 : mt_cd 175 214 = some (.aload_n 0) := mt_cd_of (q := (214, .aload_n 0, 1)) mq_175 ci_175 (List.mem_append_right _ (List.mem_append_left _ (show _ ∈ my_175_1 from List.mem_of_getElem? (i := 32) rfl)))
theorem cd_175_215 : mt_cd 175 215 = some (.getfield 89) := mt_cd_of (q := (215, .getfield 89, 3)) mq_175 ci_175 (List.mem_append_right _ (List.mem_append_left _ (show _ ∈ my_175_1 from List.mem_of_getElem? (i := 33) rfl)))
theorem cd_175_218 : mt_cd 175 218 = some (.iload_n 1) := mt_cd_of (q := (218, .iload_n 1, 1)) mq_175 ci_175 (List.mem_append_right _ (List.mem_append_left _ (show _ ∈ my_175_1 from List.mem_of_getElem? (i := 34) rfl)))
theorem cd_175_219 : mt_cd 175 219 = some (.iaload) := mt_cd_of (q := (219, .iaload, 1)) mq_175 ci_175 (List.mem_append_right _ (List.mem_append_left _ (show _ ∈ my_175_1 from List.mem_of_getElem? (i := 35) rfl)))
theorem cd_175_220 : mt_cd 175 220 = some (.invokevirtual 477) := mt_cd_of (q := (220, .invokevirtual 477, 3)) mq_175 ci_175 (List.mem_append_right _ (List.mem_append_left _ (show _ ∈ my_175_1 from List.mem_of_getElem? (i := 36) rfl)))
theorem cd_175_223 : mt_cd 175 223 = some (.ifCond .eq 16) := mt_cd_of (q := (223, .ifCond .eq 16, 3)) mq_175 ci_175 (List.mem_append_right _ (List.mem_append_left _ (show _ ∈ my_175_1 from List.mem_of_getElem? (i := 37) rfl)))
theorem cd_175_226 : mt_cd 175 226 = some (.aload_n 0) := mt_cd_of (q := (226, .aload_n 0, 1)) mq_175 ci_175 (List.mem_append_right _ (List.mem_append_left _ (show _ ∈ my_175_1 from List.mem_of_getElem? (i := 38) rfl)))
theorem cd_175_227 : mt_cd 175 227 = some (.aload_n 0) := mt_cd_of (q := (227, .aload_n 0, 1)) mq_175 ci_175 (List.mem_append_right _ (List.mem_append_left _ (show _ ∈ my_175_1 from List.mem_of_getElem? (i := 39) rfl)))
theorem cd_175_228 : mt_cd 175 228 = some (.getfield 80) := mt_cd_of (q := (228, .getfield 80, 3)) mq_175 ci_175 (List.mem_append_right _ (List.mem_append_left _ (show _ ∈ my_175_1 from List.mem_of_getElem? (i := 40) rfl)))
theorem cd_175_231 : mt_cd 175 231 = some (.iload_n 1) := mt_cd_of (q := (231, .iload_n 1, 1)) mq_175 ci_175 (List.mem_append_right _ (List.mem_append_left _ (show _ ∈ my_175_1 from List.mem_of_getElem? (i := 41) rfl)))
theorem cd_175_232 : mt_cd 175 232 = some (.iaload) := mt_cd_of (q := (232, .iaload, 1)) mq_175 ci_175 (List.mem_append_right _ (List.mem_append_left _ (show _ ∈ my_175_1 from List.mem_of_getElem? (i := 42) rfl)))
theorem cd_175_233 : mt_cd 175 233 = some (.invokevirtual 451) := mt_cd_of (q := (233, .invokevirtual 451, 3)) mq_175 ci_175 (List.mem_append_right _ (List.mem_append_left _ (show _ ∈ my_175_1 from List.mem_of_getElem? (i := 43) rfl)))
theorem cd_175_236 : mt_cd 175 236 = some (.goto 13) := mt_cd_of (q := (236, .goto 13, 3)) mq_175 ci_175 (List.mem_append_right _ (List.mem_append_left _ (show _ ∈ my_175_1 from List.mem_of_getElem? (i := 44) rfl)))
theorem cd_175_239 : mt_cd 175 239 = some (.aload_n 0) := mt_cd_of (q := (239, .aload_n 0, 1)) mq_175 ci_175 (List.mem_append_right _ (List.mem_append_left _ (show _ ∈ my_175_1 from List.mem_of_getElem? (i := 45) rfl)))
theorem cd_175_240 : mt_cd 175 240 = some (.aload_n 0) := mt_cd_of (q := (240, .aload_n 0, 1)) mq_175 ci_175 (List.mem_append_right _ (List.mem_append_left _ (show _ ∈ my_175_1 from List.mem_of_getElem? (i := 46) rfl)))
theorem cd_175_241 : mt_cd 175 241 = some (.getfield 83) := mt_cd_of (q := (241, .getfield 83, 3)) mq_175 ci_175 (List.mem_append_right _ (List.mem_append_left _ (show _ ∈ my_175_1 from List.mem_of_getElem? (i := 47) rfl)))
theorem cd_175_244 : mt_cd 175 244 = some (.iload_n 1) := mt_cd_of (q := (244, .iload_n 1, 1)) mq_175 ci_175 (List.mem_append_right _ (List.mem_append_left _ (show _ ∈ my_175_1 from List.mem_of_getElem? (i := 48) rfl)))
theorem cd_175_245 : mt_cd 175 245 = some (.iaload) := mt_cd_of (q := (245, .iaload, 1)) mq_175 ci_175 (List.mem_append_right _ (List.mem_append_left _ (show _ ∈ my_175_1 from List.mem_of_getElem? (i := 49) rfl)))
theorem cd_175_246 : mt_cd 175 246 = some (.invokevirtual 451) := mt_cd_of (q := (246, .invokevirtual 451, 3)) mq_175 ci_175 (List.mem_append_right _ (List.mem_append_left _ (show _ ∈ my_175_1 from List.mem_of_getElem? (i := 50) rfl)))
theorem cd_175_249 : mt_cd 175 249 = some (.lreturn) := mt_cd_of (q := (249, .lreturn, 1)) mq_175 ci_175 (List.mem_append_right _ (List.mem_append_left _ (show _ ∈ my_175_1 from List.mem_of_getElem? (i := 51) rfl)))
theorem cd_175_250 : mt_cd 175 250 = some (.aload_n 0) := mt_cd_of (q := (250, .aload_n 0, 1)) mq_175 ci_175 (List.mem_append_right _ (List.mem_append_left _ (show _ ∈ my_175_1 from List.mem_of_getElem? (i := 52) rfl)))
theorem cd_175_251 : mt_cd 175 251 = some (.aload_n 0) := mt_cd_of (q := (251, .aload_n 0, 1)) mq_175 ci_175 (List.mem_append_right _ (List.mem_append_left _ (show _ ∈ my_175_1 from List.mem_of_getElem? (i := 53) rfl)))
theorem cd_175_252 : mt_cd 175 252 = some (.getfield 77) := mt_cd_of (q := (252, .getfield 77, 3)) mq_175 ci_175 (List.mem_append_right _ (List.mem_append_left _ (show _ ∈ my_175_1 from List.mem_of_getElem? (i := 54) rfl)))
theorem cd_175_255 : mt_cd 175 255 = some (.iload_n 1) := mt_cd_of (q := (255, .iload_n 1, 1)) mq_175 ci_175 (List.mem_append_right _ (List.mem_append_left _ (show _ ∈ my_175_1 from List.mem_of_getElem? (i := 55) rfl)))
theorem cd_175_256 : mt_cd 175 256 = some (.iaload) := mt_cd_of (q := (256, .iaload, 1)) mq_175 ci_175 (List.mem_append_right _ (List.mem_append_left _ (show _ ∈ my_175_1 from List.mem_of_getElem? (i := 56) rfl)))
theorem cd_175_257 : mt_cd 175 257 = some (.aload_n 0) := mt_cd_of (q := (257, .aload_n 0, 1)) mq_175 ci_175 (List.mem_append_right _ (List.mem_append_left _ (show _ ∈ my_175_1 from List.mem_of_getElem? (i := 57) rfl)))
theorem cd_175_258 : mt_cd 175 258 = some (.aload_n 0) := mt_cd_of (q := (258, .aload_n 0, 1)) mq_175 ci_175 (List.mem_append_right _ (List.mem_append_left _ (show _ ∈ my_175_1 from List.mem_of_getElem? (i := 58) rfl)))
theorem cd_175_259 : mt_cd 175 259 = some (.getfield 80) := mt_cd_of (q := (259, .getfield 80, 3)) mq_175 ci_175 (List.mem_append_right _ (List.mem_append_left _ (show _ ∈ my_175_1 from List.mem_of_getElem? (i := 59) rfl)))
theorem cd_175_262 : mt_cd 175 262 = some (.iload_n 1) := mt_cd_of (q := (262, .iload_n 1, 1)) mq_175 ci_175 (List.mem_append_right _ (List.mem_append_right _ ((show _ ∈ my_175_2 from List.mem_of_getElem? (i := 0) rfl))))
theorem cd_175_263 : mt_cd 175 263 = some (.iaload) := mt_cd_of (q := (263, .iaload, 1)) mq_175 ci_175 (List.mem_append_right _ (List.mem_append_right _ ((show _ ∈ my_175_2 from List.mem_of_getElem? (i := 1) rfl))))
theorem cd_175_264 : mt_cd 175 264 = some (.invokevirtual 451) := mt_cd_of (q := (264, .invokevirtual 451, 3)) mq_175 ci_175 (List.mem_append_right _ (List.mem_append_right _ ((show _ ∈ my_175_2 from List.mem_of_getElem? (i := 2) rfl))))
theorem cd_175_267 : mt_cd 175 267 = some (.aload_n 0) := mt_cd_of (q := (267, .aload_n 0, 1)) mq_175 ci_175 (List.mem_append_right _ (List.mem_append_right _ ((show _ ∈ my_175_2 from List.mem_of_getElem? (i := 3) rfl))))
theorem cd_175_268 : mt_cd 175 268 = some (.aload_n 0) := mt_cd_of (q := (268, .aload_n 0, 1)) mq_175 ci_175 (List.mem_append_right _ (List.mem_append_right _ ((show _ ∈ my_175_2 from List.mem_of_getElem? (i := 4) rfl))))
theorem cd_175_269 : mt_cd 175 269 = some (.getfield 83) := mt_cd_of (q := (269, .getfield 83, 3)) mq_175 ci_175 (List.mem_append_right _ (List.mem_append_right _ ((show _ ∈ my_175_2 from List.mem_of_getElem? (i := 5) rfl))))
theorem cd_175_272 : mt_cd 175 272 = some (.iload_n 1) := mt_cd_of (q := (272, .iload_n 1, 1)) mq_175 ci_175 (List.mem_append_right _ (List.mem_append_right _ ((show _ ∈ my_175_2 from List.mem_of_getElem? (i := 6) rfl))))
theorem cd_175_273 : mt_cd 175 273 = some (.iaload) := mt_cd_of (q := (273, .iaload, 1)) mq_175 ci_175 (List.mem_append_right _ (List.mem_append_right _ ((show _ ∈ my_175_2 from List.mem_of_getElem? (i := 7) rfl))))
theorem cd_175_274 : mt_cd 175 274 = some (.invokevirtual 451) := mt_cd_of (q := (274, .invokevirtual 451, 3)) mq_175 ci_175 (List.mem_append_right _ (List.mem_append_right _ ((show _ ∈ my_175_2 from List.mem_of_getElem? (i := 8) rfl))))
theorem cd_175_277 : mt_cd 175 277 = some (.invokevirtual 480) := mt_cd_of (q := (277, .invokevirtual 480, 3)) mq_175 ci_175 (List.mem_append_right _ (List.mem_append_right _ ((show _ ∈ my_175_2 from List.mem_of_getElem? (i := 9) rfl))))
theorem cd_175_280 : mt_cd 175 280 = some (.lreturn) := mt_cd_of (q := (280, .lreturn, 1)) mq_175 ci_175 (List.mem_append_right _ (List.mem_append_right _ ((show _ ∈ my_175_2 from List.mem_of_getElem? (i := 10) rfl))))
theorem b_175_0 {d : Nat} {Q : (Option Value ⊕ Nat) → mi_H → Prop} (n sl : Nat) (f : Nat → mi_C) {l1 : Nat} {l2 : Int32} {fs3 : List Value} {x6 : Int32} (h4 : f l1 = .inr (12, fs3)) (h5 : l1 < n) (h7 : fs3[46]? = some (.int x6)) (h8 : x6 = (0 : Int32) → mi_W d 175 9 [some (.ref l1), some (.int l2)] [] (n, sl, f) Q) (h9 : ¬ (x6 = (0 : Int32)) → mi_W d 175 7 [some (.ref l1), some (.int l2)] [] (n, sl, f) Q) : mi_W d 175 0 [some (.ref l1), some (.int l2)] [] (n, sl, f) Q := by
  refine w_aload_n cd_175_0 rfl ?_
  refine w_getfield cd_175_1 (show mt_f 12 441 = some (12, 46) by decide +kernel) h4 h5 h7 ?_
  exact w_ifeq cd_175_4 (by decide) h8 h9
theorem b_175_7 {d : Nat} {Q : (Option Value ⊕ Nat) → mi_H → Prop} (n sl : Nat) (f : Nat → mi_C) {l1 : Nat} {l2 : Int32} (h3 : Q (.inl (some (.long 0))) (n, sl, f)) : mi_W d 175 7 [some (.ref l1), some (.int l2)] [] (n, sl, f) Q := by
  refine w_lconst (lv := 0) cd_175_7 (by decide) ?_
  exact w_lreturn cd_175_8 (by decide +kernel) h3
theorem b_175_9 {d : Nat} {Q : (Option Value ⊕ Nat) → mi_H → Prop} (n sl : Nat) (f : Nat → mi_C) {l1 : Nat} {l2 : Int32} {fs3 : List Value} {x6 : Nat} (m8 i8 : Nat) (g8 : Nat → Int32) {t12 : Nat} (h4 : f l1 = .inr (12, fs3)) (h5 : l1 < n) (h7 : fs3[12]? = some (.ref x6)) (h9 : f x6 = .inl (0, m8, .inl g8)) (h10 : x6 < n ∨ x6 = mi_SC) (h11 : mi_ix l2 m8 i8) (h13 : mi_ts 15 235 10 21 #[61, 68, 92, 235, 235, 235, 235, 108, 144, 180, 189, 198] ((g8 i8) : Int32).toInt = some t12) (h14 : mi_W d 175 t12 [some (.ref l1), some (.int l2)] [] (n, sl, f) Q) : mi_W d 175 9 [some (.ref l1), some (.int l2)] [] (n, sl, f) Q := by
  refine w_aload_n cd_175_9 rfl ?_
  refine w_getfield cd_175_10 (show mt_f 12 77 = some (12, 12) by decide +kernel) h4 h5 h7 ?_
  refine w_iload_n cd_175_13 rfl ?_
  refine w_iaload cd_175_14 h9 h10 h11 ?_
  exact w_tableswitch cd_175_15 h13 h14
theorem b_175_76 {d : Nat} {Q : (Option Value ⊕ Nat) → mi_H → Prop} (n sl : Nat) (f : Nat → mi_C) {l1 : Nat} {l2 : Int32} {fs3 : List Value} {x6 : Nat} (m8 i8 : Nat) (g8 : Nat → Int64) (h4 : f l1 = .inr (12, fs3)) (h5 : l1 < n) (h7 : fs3[20]? = some (.ref x6)) (h9 : f x6 = .inl (3, m8, .inr (.inl g8))) (h10 : x6 < n) (h11 : mi_ix l2 m8 i8) (h12 : Q (.inl (some (.long (g8 i8)))) (n, sl, f)) : mi_W d 175 76 [some (.ref l1), some (.int l2)] [] (n, sl, f) Q := by
  refine w_aload_n cd_175_76 rfl ?_
  refine w_getfield cd_175_77 (show mt_f 12 101 = some (12, 20) by decide +kernel) h4 h5 h7 ?_
  refine w_iload_n cd_175_80 rfl ?_
  refine w_laload cd_175_81 h9 h10 h11 ?_
  exact w_lreturn cd_175_82 (by decide +kernel) h12
theorem b_175_83 {d : Nat} {Q : (Option Value ⊕ Nat) → mi_H → Prop} (n sl : Nat) (f : Nat → mi_C) {l1 : Nat} {l2 : Int32} {fs3 : List Value} {x6 : Nat} {fs8 : List Value} {x11 : Nat} {fs13 : List Value} {x16 : Nat} (m18 i18 : Nat) (g18 : Nat → Int32) {fs22 : List Value} {x25 : Nat} (m27 i27 : Nat) (g27 : Nat → Int32) (m31 i31 : Nat) (g31 : Nat → Int64) (h4 : f l1 = .inr (12, fs3)) (h5 : l1 < n) (h7 : fs3[43]? = some (.ref x6)) (h9 : f x6 = .inr (13, fs8)) (h10 : x6 < n) (h12 : fs8[2]? = some (.ref x11)) (h14 : f l1 = .inr (12, fs13)) (h15 : l1 < n) (h17 : fs13[13]? = some (.ref x16)) (h19 : f x16 = .inl (0, m18, .inl g18)) (h20 : x16 < n ∨ x16 = mi_SC) (h21 : mi_ix l2 m18 i18) (h23 : f l1 = .inr (12, fs22)) (h24 : l1 < n) (h26 : fs22[15]? = some (.ref x25)) (h28 : f x25 = .inl (0, m27, .inl g27)) (h29 : x25 < n ∨ x25 = mi_SC) (h30 : mi_ix l2 m27 i27) (h32 : f x11 = .inl (3, m31, .inr (.inl g31))) (h33 : x11 < n) (h34 : mi_ix ((4 * (g18 i18)) + (g27 i27)) m31 i31) (h35 : Q (.inl (some (.long (g31 i31)))) (n, sl, f)) : mi_W d 175 83 [some (.ref l1), some (.int l2)] [] (n, sl, f) Q := by
  refine w_aload_n cd_175_83 rfl ?_
  refine w_getfield cd_175_84 (show mt_f 12 445 = some (12, 43) by decide +kernel) h4 h5 h7 ?_
  refine w_getfield cd_175_87 (show mt_f 12 448 = some (13, 2) by decide +kernel) h9 h10 h12 ?_
  refine w_iconst (v := 4) cd_175_90 (by decide) ?_
  refine w_aload_n cd_175_91 rfl ?_
  refine w_getfield cd_175_92 (show mt_f 12 80 = some (12, 13) by decide +kernel) h14 h15 h17 ?_
  refine w_iload_n cd_175_95 rfl ?_
  refine w_iaload cd_175_96 h19 h20 h21 ?_
  refine w_imul cd_175_97 ?_
  refine w_aload_n cd_175_98 rfl ?_
  refine w_getfield cd_175_99 (show mt_f 12 86 = some (12, 15) by decide +kernel) h23 h24 h26 ?_
  refine w_iload_n cd_175_102 rfl ?_
  refine w_iaload cd_175_103 h28 h29 h30 ?_
  refine w_iadd cd_175_104 ?_
  refine w_laload cd_175_105 h32 h33 h34 ?_
  exact w_lreturn cd_175_106 (by decide +kernel) h35
theorem b_175_107 {d : Nat} {Q : (Option Value ⊕ Nat) → mi_H → Prop} (n sl : Nat) (f : Nat → mi_C) {l1 : Nat} {l2 : Int32} {fs3 : List Value} {x6 : Nat} (m8 i8 : Nat) (g8 : Nat → Int32) {fs12 : List Value} (h4 : f l1 = .inr (12, fs3)) (h5 : l1 < n) (h7 : fs3[13]? = some (.ref x6)) (h9 : f x6 = .inl (0, m8, .inl g8)) (h10 : x6 < n ∨ x6 = mi_SC) (h11 : mi_ix l2 m8 i8) (h13 : f l1 = .inr (12, fs12)) (h14 : l1 < n) (h15 : mi_W d 175 0 (mi_en 2 [.ref l1, .int (g8 i8)]) [] (n, sl, f) (mi_Kc d 175 115 [some (.ref l1), some (.int l2)] [.ref l1] Q)) : mi_W (d + 1) 175 107 [some (.ref l1), some (.int l2)] [] (n, sl, f) Q := by
  refine w_aload_n cd_175_107 rfl ?_
  refine w_aload_n cd_175_108 rfl ?_
  refine w_aload_n cd_175_109 rfl ?_
  refine w_getfield cd_175_110 (show mt_f 12 80 = some (12, 13) by decide +kernel) h4 h5 h7 ?_
  refine w_iload_n cd_175_113 rfl ?_
  refine w_iaload cd_175_114 h9 h10 h11 ?_
  exact w_invokevirtual cd_175_115 (show mt_m 12 451 = some (175, 0) by decide +kernel) (rest := [.ref l1]) rfl (as := [.ref l1, .int (g8 i8)]) rfl h13 (Or.inl h14) ⟨Nat.le_of_ble_eq_true rfl, Nat.le_of_ble_eq_true rfl, Nat.le_of_ble_eq_true rfl⟩ h15
theorem b_175_118 {d : Nat} {Q : (Option Value ⊕ Nat) → mi_H → Prop} (n sl : Nat) (f : Nat → mi_C) {l1 : Nat} {l2 : Int32} {s3 : Int64} {s4 : Nat} {fs5 : List Value} (h6 : f s4 = .inr (12, fs5)) (h7 : s4 < n) (h8 : mi_W d 176 0 (mi_en 3 [.ref s4, .long (-s3)]) [] (n, sl, f) (mi_Kc d 175 119 [some (.ref l1), some (.int l2)] [] Q)) : mi_W (d + 1) 175 118 [some (.ref l1), some (.int l2)] [.long s3, .ref s4] (n, sl, f) Q := by
  refine w_lneg cd_175_118 ?_
  exact w_invokevirtual cd_175_119 (show mt_m 12 455 = some (176, 0) by decide +kernel) (rest := []) rfl (as := [.ref s4, .long (-s3)]) rfl h6 (Or.inl h7) ⟨Nat.le_of_ble_eq_true rfl, Nat.le_of_ble_eq_true rfl, Nat.le_of_ble_eq_true rfl⟩ h8
theorem b_175_122 {d : Nat} {Q : (Option Value ⊕ Nat) → mi_H → Prop} (n sl : Nat) (f : Nat → mi_C) {l1 : Nat} {l2 : Int32} {s3 : Int64} (h4 : Q (.inl (some (.long s3))) (n, sl, f)) : mi_W d 175 122 [some (.ref l1), some (.int l2)] [.long s3] (n, sl, f) Q := by
  exact w_lreturn cd_175_122 (by decide +kernel) h4
theorem b_175_123 {d : Nat} {Q : (Option Value ⊕ Nat) → mi_H → Prop} (n sl : Nat) (f : Nat → mi_C) {l1 : Nat} {l2 : Int32} {fs3 : List Value} {x6 : Nat} {fs8 : List Value} {x11 : Nat} {fs13 : List Value} {x16 : Nat} (m18 i18 : Nat) (g18 : Nat → Int32) (m22 i22 : Nat) (g22 : Nat → Int32) (h4 : f l1 = .inr (12, fs3)) (h5 : l1 < n) (h7 : fs3[43]? = some (.ref x6)) (h9 : f x6 = .inr (13, fs8)) (h10 : x6 < n) (h12 : fs8[5]? = some (.ref x11)) (h14 : f l1 = .inr (12, fs13)) (h15 : l1 < n) (h17 : fs13[13]? = some (.ref x16)) (h19 : f x16 = .inl (0, m18, .inl g18)) (h20 : x16 < n ∨ x16 = mi_SC) (h21 : mi_ix l2 m18 i18) (h23 : f x11 = .inl (2, m22, .inl g22)) (h24 : x11 < n) (h25 : mi_ix (g18 i18) m22 i22) (h26 : (g22 i22) = (0 : Int32) → mi_W d 175 157 [some (.ref l1), some (.int l2)] [] (n, sl, f) Q) (h27 : ¬ ((g22 i22) = (0 : Int32)) → mi_W d 175 140 [some (.ref l1), some (.int l2)] [] (n, sl, f) Q) : mi_W d 175 123 [some (.ref l1), some (.int l2)] [] (n, sl, f) Q := by
  refine w_aload_n cd_175_123 rfl ?_
  refine w_getfield cd_175_124 (show mt_f 12 445 = some (12, 43) by decide +kernel) h4 h5 h7 ?_
  refine w_getfield cd_175_127 (show mt_f 12 459 = some (13, 5) by decide +kernel) h9 h10 h12 ?_
  refine w_aload_n cd_175_130 rfl ?_
  refine w_getfield cd_175_131 (show mt_f 12 80 = some (12, 13) by decide +kernel) h14 h15 h17 ?_
  refine w_iload_n cd_175_134 rfl ?_
  refine w_iaload cd_175_135 h19 h20 h21 ?_
  refine w_baload2 cd_175_136 h23 h24 h25 ?_
  exact w_ifeq cd_175_137 (by decide) h26 h27
theorem b_175_140 {d : Nat} {Q : (Option Value ⊕ Nat) → mi_H → Prop} (n sl : Nat) (f : Nat → mi_C) {l1 : Nat} {l2 : Int32} {fs3 : List Value} {x6 : Nat} {fs8 : List Value} {x11 : Nat} {fs13 : List Value} {x16 : Nat} (m18 i18 : Nat) (g18 : Nat → Int32) (m22 i22 : Nat) (g22 : Nat → Int64) (h4 : f l1 = .inr (12, fs3)) (h5 : l1 < n) (h7 : fs3[43]? = some (.ref x6)) (h9 : f x6 = .inr (13, fs8)) (h10 : x6 < n) (h12 : fs8[3]? = some (.ref x11)) (h14 : f l1 = .inr (12, fs13)) (h15 : l1 < n) (h17 : fs13[13]? = some (.ref x16)) (h19 : f x16 = .inl (0, m18, .inl g18)) (h20 : x16 < n ∨ x16 = mi_SC) (h21 : mi_ix l2 m18 i18) (h23 : f x11 = .inl (3, m22, .inr (.inl g22))) (h24 : x11 < n) (h25 : mi_ix (g18 i18) m22 i22) (h26 : mi_W d 175 158 [some (.ref l1), some (.int l2)] [.long (g22 i22)] (n, sl, f) Q) : mi_W d 175 140 [some (.ref l1), some (.int l2)] [] (n, sl, f) Q := by
  refine w_aload_n cd_175_140 rfl ?_
  refine w_getfield cd_175_141 (show mt_f 12 445 = some (12, 43) by decide +kernel) h4 h5 h7 ?_
  refine w_getfield cd_175_144 (show mt_f 12 463 = some (13, 3) by decide +kernel) h9 h10 h12 ?_
  refine w_aload_n cd_175_147 rfl ?_
  refine w_getfield cd_175_148 (show mt_f 12 80 = some (12, 13) by decide +kernel) h14 h15 h17 ?_
  refine w_iload_n cd_175_151 rfl ?_
  refine w_iaload cd_175_152 h19 h20 h21 ?_
  refine w_laload cd_175_153 h23 h24 h25 ?_
  exact w_goto cd_175_154 (by decide) h26
theorem b_175_157 {d : Nat} {Q : (Option Value ⊕ Nat) → mi_H → Prop} (n sl : Nat) (f : Nat → mi_C) {l1 : Nat} {l2 : Int32} (h3 : mi_W d 175 158 [some (.ref l1), some (.int l2)] [.long 0] (n, sl, f) Q) : mi_W d 175 157 [some (.ref l1), some (.int l2)] [] (n, sl, f) Q := by
  refine w_lconst (lv := 0) cd_175_157 (by decide) ?_
  exact h3
theorem b_175_158 {d : Nat} {Q : (Option Value ⊕ Nat) → mi_H → Prop} (n sl : Nat) (f : Nat → mi_C) {l1 : Nat} {l2 : Int32} {s3 : Int64} (h4 : Q (.inl (some (.long s3))) (n, sl, f)) : mi_W d 175 158 [some (.ref l1), some (.int l2)] [.long s3] (n, sl, f) Q := by
  exact w_lreturn cd_175_158 (by decide +kernel) h4
theorem b_175_159 {d : Nat} {Q : (Option Value ⊕ Nat) → mi_H → Prop} (n sl : Nat) (f : Nat → mi_C) {l1 : Nat} {l2 : Int32} {fs3 : List Value} {x6 : Nat} {fs8 : List Value} {x11 : Nat} {fs13 : List Value} {x16 : Nat} (m18 i18 : Nat) (g18 : Nat → Int32) (m22 i22 : Nat) (g22 : Nat → Int32) (h4 : f l1 = .inr (12, fs3)) (h5 : l1 < n) (h7 : fs3[43]? = some (.ref x6)) (h9 : f x6 = .inr (13, fs8)) (h10 : x6 < n) (h12 : fs8[6]? = some (.ref x11)) (h14 : f l1 = .inr (12, fs13)) (h15 : l1 < n) (h17 : fs13[13]? = some (.ref x16)) (h19 : f x16 = .inl (0, m18, .inl g18)) (h20 : x16 < n ∨ x16 = mi_SC) (h21 : mi_ix l2 m18 i18) (h23 : f x11 = .inl (2, m22, .inl g22)) (h24 : x11 < n) (h25 : mi_ix (g18 i18) m22 i22) (h26 : (g22 i22) = (0 : Int32) → mi_W d 175 193 [some (.ref l1), some (.int l2)] [] (n, sl, f) Q) (h27 : ¬ ((g22 i22) = (0 : Int32)) → mi_W d 175 176 [some (.ref l1), some (.int l2)] [] (n, sl, f) Q) : mi_W d 175 159 [some (.ref l1), some (.int l2)] [] (n, sl, f) Q := by
  refine w_aload_n cd_175_159 rfl ?_
  refine w_getfield cd_175_160 (show mt_f 12 445 = some (12, 43) by decide +kernel) h4 h5 h7 ?_
  refine w_getfield cd_175_163 (show mt_f 12 465 = some (13, 6) by decide +kernel) h9 h10 h12 ?_
  refine w_aload_n cd_175_166 rfl ?_
  refine w_getfield cd_175_167 (show mt_f 12 80 = some (12, 13) by decide +kernel) h14 h15 h17 ?_
  refine w_iload_n cd_175_170 rfl ?_
  refine w_iaload cd_175_171 h19 h20 h21 ?_
  refine w_baload2 cd_175_172 h23 h24 h25 ?_
  exact w_ifeq cd_175_173 (by decide) h26 h27
theorem b_175_176 {d : Nat} {Q : (Option Value ⊕ Nat) → mi_H → Prop} (n sl : Nat) (f : Nat → mi_C) {l1 : Nat} {l2 : Int32} {fs3 : List Value} {x6 : Nat} {fs8 : List Value} {x11 : Nat} {fs13 : List Value} {x16 : Nat} (m18 i18 : Nat) (g18 : Nat → Int32) (m22 i22 : Nat) (g22 : Nat → Int64) (h4 : f l1 = .inr (12, fs3)) (h5 : l1 < n) (h7 : fs3[43]? = some (.ref x6)) (h9 : f x6 = .inr (13, fs8)) (h10 : x6 < n) (h12 : fs8[4]? = some (.ref x11)) (h14 : f l1 = .inr (12, fs13)) (h15 : l1 < n) (h17 : fs13[13]? = some (.ref x16)) (h19 : f x16 = .inl (0, m18, .inl g18)) (h20 : x16 < n ∨ x16 = mi_SC) (h21 : mi_ix l2 m18 i18) (h23 : f x11 = .inl (3, m22, .inr (.inl g22))) (h24 : x11 < n) (h25 : mi_ix (g18 i18) m22 i22) (h26 : mi_W d 175 194 [some (.ref l1), some (.int l2)] [.long (g22 i22)] (n, sl, f) Q) : mi_W d 175 176 [some (.ref l1), some (.int l2)] [] (n, sl, f) Q := by
  refine w_aload_n cd_175_176 rfl ?_
  refine w_getfield cd_175_177 (show mt_f 12 445 = some (12, 43) by decide +kernel) h4 h5 h7 ?_
  refine w_getfield cd_175_180 (show mt_f 12 468 = some (13, 4) by decide +kernel) h9 h10 h12 ?_
  refine w_aload_n cd_175_183 rfl ?_
  refine w_getfield cd_175_184 (show mt_f 12 80 = some (12, 13) by decide +kernel) h14 h15 h17 ?_
  refine w_iload_n cd_175_187 rfl ?_
  refine w_iaload cd_175_188 h19 h20 h21 ?_
  refine w_laload cd_175_189 h23 h24 h25 ?_
  exact w_goto cd_175_190 (by decide) h26
theorem b_175_193 {d : Nat} {Q : (Option Value ⊕ Nat) → mi_H → Prop} (n sl : Nat) (f : Nat → mi_C) {l1 : Nat} {l2 : Int32} (h3 : mi_W d 175 194 [some (.ref l1), some (.int l2)] [.long 0] (n, sl, f) Q) : mi_W d 175 193 [some (.ref l1), some (.int l2)] [] (n, sl, f) Q := by
  refine w_lconst (lv := 0) cd_175_193 (by decide) ?_
  exact h3
theorem b_175_194 {d : Nat} {Q : (Option Value ⊕ Nat) → mi_H → Prop} (n sl : Nat) (f : Nat → mi_C) {l1 : Nat} {l2 : Int32} {s3 : Int64} (h4 : Q (.inl (some (.long s3))) (n, sl, f)) : mi_W d 175 194 [some (.ref l1), some (.int l2)] [.long s3] (n, sl, f) Q := by
  exact w_lreturn cd_175_194 (by decide +kernel) h4
theorem b_175_195 {d : Nat} {Q : (Option Value ⊕ Nat) → mi_H → Prop} (n sl : Nat) (f : Nat → mi_C) {l1 : Nat} {l2 : Int32} {fs3 : List Value} {x6 : Int64} {fs8 : List Value} (h4 : f l1 = .inr (12, fs3)) (h5 : l1 < n) (h7 : fs3[44]? = some (.long x6)) (h9 : f l1 = .inr (12, fs8)) (h10 : l1 < n) (h11 : mi_W d 176 0 (mi_en 3 [.ref l1, .long x6]) [] (n, sl, f) (mi_Kc d 175 200 [some (.ref l1), some (.int l2)] [] Q)) : mi_W (d + 1) 175 195 [some (.ref l1), some (.int l2)] [] (n, sl, f) Q := by
  refine w_aload_n cd_175_195 rfl ?_
  refine w_aload_n cd_175_196 rfl ?_
  refine w_getfield cd_175_197 (show mt_f 12 471 = some (12, 44) by decide +kernel) h4 h5 h7 ?_
  exact w_invokevirtual cd_175_200 (show mt_m 12 455 = some (176, 0) by decide +kernel) (rest := []) rfl (as := [.ref l1, .long x6]) rfl h9 (Or.inl h10) ⟨Nat.le_of_ble_eq_true rfl, Nat.le_of_ble_eq_true rfl, Nat.le_of_ble_eq_true rfl⟩ h11
theorem b_175_203 {d : Nat} {Q : (Option Value ⊕ Nat) → mi_H → Prop} (n sl : Nat) (f : Nat → mi_C) {l1 : Nat} {l2 : Int32} {s3 : Int64} (h4 : Q (.inl (some (.long s3))) (n, sl, f)) : mi_W d 175 203 [some (.ref l1), some (.int l2)] [.long s3] (n, sl, f) Q := by
  exact w_lreturn cd_175_203 (by decide +kernel) h4
theorem b_175_204 {d : Nat} {Q : (Option Value ⊕ Nat) → mi_H → Prop} (n sl : Nat) (f : Nat → mi_C) {l1 : Nat} {l2 : Int32} {fs3 : List Value} {x6 : Int64} {fs8 : List Value} (h4 : f l1 = .inr (12, fs3)) (h5 : l1 < n) (h7 : fs3[45]? = some (.long x6)) (h9 : f l1 = .inr (12, fs8)) (h10 : l1 < n) (h11 : mi_W d 176 0 (mi_en 3 [.ref l1, .long x6]) [] (n, sl, f) (mi_Kc d 175 209 [some (.ref l1), some (.int l2)] [] Q)) : mi_W (d + 1) 175 204 [some (.ref l1), some (.int l2)] [] (n, sl, f) Q := by
  refine w_aload_n cd_175_204 rfl ?_
  refine w_aload_n cd_175_205 rfl ?_
  refine w_getfield cd_175_206 (show mt_f 12 474 = some (12, 45) by decide +kernel) h4 h5 h7 ?_
  exact w_invokevirtual cd_175_209 (show mt_m 12 455 = some (176, 0) by decide +kernel) (rest := []) rfl (as := [.ref l1, .long x6]) rfl h9 (Or.inl h10) ⟨Nat.le_of_ble_eq_true rfl, Nat.le_of_ble_eq_true rfl, Nat.le_of_ble_eq_true rfl⟩ h11
theorem b_175_212 {d : Nat} {Q : (Option Value ⊕ Nat) → mi_H → Prop} (n sl : Nat) (f : Nat → mi_C) {l1 : Nat} {l2 : Int32} {s3 : Int64} (h4 : Q (.inl (some (.long s3))) (n, sl, f)) : mi_W d 175 212 [some (.ref l1), some (.int l2)] [.long s3] (n, sl, f) Q := by
  exact w_lreturn cd_175_212 (by decide +kernel) h4
theorem b_175_213 {d : Nat} {Q : (Option Value ⊕ Nat) → mi_H → Prop} (n sl : Nat) (f : Nat → mi_C) {l1 : Nat} {l2 : Int32} {fs3 : List Value} {x6 : Nat} (m8 i8 : Nat) (g8 : Nat → Int32) {fs12 : List Value} (h4 : f l1 = .inr (12, fs3)) (h5 : l1 < n) (h7 : fs3[16]? = some (.ref x6)) (h9 : f x6 = .inl (0, m8, .inl g8)) (h10 : x6 < n ∨ x6 = mi_SC) (h11 : mi_ix l2 m8 i8) (h13 : f l1 = .inr (12, fs12)) (h14 : l1 < n) (h15 : mi_W d 177 0 (mi_en 6 [.ref l1, .int (g8 i8)]) [] (n, sl, f) (mi_Kc d 175 220 [some (.ref l1), some (.int l2)] [] Q)) : mi_W (d + 1) 175 213 [some (.ref l1), some (.int l2)] [] (n, sl, f) Q := by
  refine w_aload_n cd_175_213 rfl ?_
  refine w_aload_n cd_175_214 rfl ?_
  refine w_getfield cd_175_215 (show mt_f 12 89 = some (12, 16) by decide +kernel) h4 h5 h7 ?_
  refine w_iload_n cd_175_218 rfl ?_
  refine w_iaload cd_175_219 h9 h10 h11 ?_
  exact w_invokevirtual cd_175_220 (show mt_m 12 477 = some (177, 0) by decide +kernel) (rest := []) rfl (as := [.ref l1, .int (g8 i8)]) rfl h13 (Or.inl h14) ⟨Nat.le_of_ble_eq_true rfl, Nat.le_of_ble_eq_true rfl, Nat.le_of_ble_eq_true rfl⟩ h15
theorem b_175_223 {d : Nat} {Q : (Option Value ⊕ Nat) → mi_H → Prop} (n sl : Nat) (f : Nat → mi_C) {l1 : Nat} {l2 : Int32} {s3 : Int32} (h4 : s3 = (0 : Int32) → mi_W d 175 239 [some (.ref l1), some (.int l2)] [] (n, sl, f) Q) (h5 : ¬ (s3 = (0 : Int32)) → mi_W d 175 226 [some (.ref l1), some (.int l2)] [] (n, sl, f) Q) : mi_W d 175 223 [some (.ref l1), some (.int l2)] [.int s3] (n, sl, f) Q := by
  exact w_ifeq cd_175_223 (by decide) h4 h5
theorem b_175_226 {d : Nat} {Q : (Option Value ⊕ Nat) → mi_H → Prop} (n sl : Nat) (f : Nat → mi_C) {l1 : Nat} {l2 : Int32} {fs3 : List Value} {x6 : Nat} (m8 i8 : Nat) (g8 : Nat → Int32) {fs12 : List Value} (h4 : f l1 = .inr (12, fs3)) (h5 : l1 < n) (h7 : fs3[13]? = some (.ref x6)) (h9 : f x6 = .inl (0, m8, .inl g8)) (h10 : x6 < n ∨ x6 = mi_SC) (h11 : mi_ix l2 m8 i8) (h13 : f l1 = .inr (12, fs12)) (h14 : l1 < n) (h15 : mi_W d 175 0 (mi_en 2 [.ref l1, .int (g8 i8)]) [] (n, sl, f) (mi_Kc d 175 233 [some (.ref l1), some (.int l2)] [] Q)) : mi_W (d + 1) 175 226 [some (.ref l1), some (.int l2)] [] (n, sl, f) Q := by
  refine w_aload_n cd_175_226 rfl ?_
  refine w_aload_n cd_175_227 rfl ?_
  refine w_getfield cd_175_228 (show mt_f 12 80 = some (12, 13) by decide +kernel) h4 h5 h7 ?_
  refine w_iload_n cd_175_231 rfl ?_
  refine w_iaload cd_175_232 h9 h10 h11 ?_
  exact w_invokevirtual cd_175_233 (show mt_m 12 451 = some (175, 0) by decide +kernel) (rest := []) rfl (as := [.ref l1, .int (g8 i8)]) rfl h13 (Or.inl h14) ⟨Nat.le_of_ble_eq_true rfl, Nat.le_of_ble_eq_true rfl, Nat.le_of_ble_eq_true rfl⟩ h15
theorem b_175_236 {d : Nat} {Q : (Option Value ⊕ Nat) → mi_H → Prop} (n sl : Nat) (f : Nat → mi_C) {l1 : Nat} {l2 : Int32} {s3 : Int64} (h4 : mi_W d 175 249 [some (.ref l1), some (.int l2)] [.long s3] (n, sl, f) Q) : mi_W d 175 236 [some (.ref l1), some (.int l2)] [.long s3] (n, sl, f) Q := by
  exact w_goto cd_175_236 (by decide) h4
theorem b_175_239 {d : Nat} {Q : (Option Value ⊕ Nat) → mi_H → Prop} (n sl : Nat) (f : Nat → mi_C) {l1 : Nat} {l2 : Int32} {fs3 : List Value} {x6 : Nat} (m8 i8 : Nat) (g8 : Nat → Int32) {fs12 : List Value} (h4 : f l1 = .inr (12, fs3)) (h5 : l1 < n) (h7 : fs3[14]? = some (.ref x6)) (h9 : f x6 = .inl (0, m8, .inl g8)) (h10 : x6 < n ∨ x6 = mi_SC) (h11 : mi_ix l2 m8 i8) (h13 : f l1 = .inr (12, fs12)) (h14 : l1 < n) (h15 : mi_W d 175 0 (mi_en 2 [.ref l1, .int (g8 i8)]) [] (n, sl, f) (mi_Kc d 175 246 [some (.ref l1), some (.int l2)] [] Q)) : mi_W (d + 1) 175 239 [some (.ref l1), some (.int l2)] [] (n, sl, f) Q := by
  refine w_aload_n cd_175_239 rfl ?_
  refine w_aload_n cd_175_240 rfl ?_
  refine w_getfield cd_175_241 (show mt_f 12 83 = some (12, 14) by decide +kernel) h4 h5 h7 ?_
  refine w_iload_n cd_175_244 rfl ?_
  refine w_iaload cd_175_245 h9 h10 h11 ?_
  exact w_invokevirtual cd_175_246 (show mt_m 12 451 = some (175, 0) by decide +kernel) (rest := []) rfl (as := [.ref l1, .int (g8 i8)]) rfl h13 (Or.inl h14) ⟨Nat.le_of_ble_eq_true rfl, Nat.le_of_ble_eq_true rfl, Nat.le_of_ble_eq_true rfl⟩ h15
theorem b_175_249 {d : Nat} {Q : (Option Value ⊕ Nat) → mi_H → Prop} (n sl : Nat) (f : Nat → mi_C) {l1 : Nat} {l2 : Int32} {s3 : Int64} (h4 : Q (.inl (some (.long s3))) (n, sl, f)) : mi_W d 175 249 [some (.ref l1), some (.int l2)] [.long s3] (n, sl, f) Q := by
  exact w_lreturn cd_175_249 (by decide +kernel) h4
theorem b_175_250 {d : Nat} {Q : (Option Value ⊕ Nat) → mi_H → Prop} (n sl : Nat) (f : Nat → mi_C) {l1 : Nat} {l2 : Int32} {fs3 : List Value} {x6 : Nat} (m8 i8 : Nat) (g8 : Nat → Int32) {fs12 : List Value} {x15 : Nat} (m17 i17 : Nat) (g17 : Nat → Int32) {fs21 : List Value} (h4 : f l1 = .inr (12, fs3)) (h5 : l1 < n) (h7 : fs3[12]? = some (.ref x6)) (h9 : f x6 = .inl (0, m8, .inl g8)) (h10 : x6 < n ∨ x6 = mi_SC) (h11 : mi_ix l2 m8 i8) (h13 : f l1 = .inr (12, fs12)) (h14 : l1 < n) (h16 : fs12[13]? = some (.ref x15)) (h18 : f x15 = .inl (0, m17, .inl g17)) (h19 : x15 < n ∨ x15 = mi_SC) (h20 : mi_ix l2 m17 i17) (h22 : f l1 = .inr (12, fs21)) (h23 : l1 < n) (h24 : mi_W d 175 0 (mi_en 2 [.ref l1, .int (g17 i17)]) [] (n, sl, f) (mi_Kc d 175 264 [some (.ref l1), some (.int l2)] [.int (g8 i8), .ref l1] Q)) : mi_W (d + 1) 175 250 [some (.ref l1), some (.int l2)] [] (n, sl, f) Q := by
  refine w_aload_n cd_175_250 rfl ?_
  refine w_aload_n cd_175_251 rfl ?_
  refine w_getfield cd_175_252 (show mt_f 12 77 = some (12, 12) by decide +kernel) h4 h5 h7 ?_
  refine w_iload_n cd_175_255 rfl ?_
  refine w_iaload cd_175_256 h9 h10 h11 ?_
  refine w_aload_n cd_175_257 rfl ?_
  refine w_aload_n cd_175_258 rfl ?_
  refine w_getfield cd_175_259 (show mt_f 12 80 = some (12, 13) by decide +kernel) h13 h14 h16 ?_
  refine w_iload_n cd_175_262 rfl ?_
  refine w_iaload cd_175_263 h18 h19 h20 ?_
  exact w_invokevirtual cd_175_264 (show mt_m 12 451 = some (175, 0) by decide +kernel) (rest := [.int (g8 i8), .ref l1]) rfl (as := [.ref l1, .int (g17 i17)]) rfl h22 (Or.inl h23) ⟨Nat.le_of_ble_eq_true rfl, Nat.le_of_ble_eq_true rfl, Nat.le_of_ble_eq_true rfl⟩ h24
theorem b_175_267 {d : Nat} {Q : (Option Value ⊕ Nat) → mi_H → Prop} (n sl : Nat) (f : Nat → mi_C) {l1 : Nat} {l2 : Int32} {s3 : Int64} {s4 : Int32} {s5 : Nat} {fs6 : List Value} {x9 : Nat} (m11 i11 : Nat) (g11 : Nat → Int32) {fs15 : List Value} (h7 : f l1 = .inr (12, fs6)) (h8 : l1 < n) (h10 : fs6[14]? = some (.ref x9)) (h12 : f x9 = .inl (0, m11, .inl g11)) (h13 : x9 < n ∨ x9 = mi_SC) (h14 : mi_ix l2 m11 i11) (h16 : f l1 = .inr (12, fs15)) (h17 : l1 < n) (h18 : mi_W d 175 0 (mi_en 2 [.ref l1, .int (g11 i11)]) [] (n, sl, f) (mi_Kc d 175 274 [some (.ref l1), some (.int l2)] [.long s3, .int s4, .ref s5] Q)) : mi_W (d + 1) 175 267 [some (.ref l1), some (.int l2)] [.long s3, .int s4, .ref s5] (n, sl, f) Q := by
  refine w_aload_n cd_175_267 rfl ?_
  refine w_aload_n cd_175_268 rfl ?_
  refine w_getfield cd_175_269 (show mt_f 12 83 = some (12, 14) by decide +kernel) h7 h8 h10 ?_
  refine w_iload_n cd_175_272 rfl ?_
  refine w_iaload cd_175_273 h12 h13 h14 ?_
  exact w_invokevirtual cd_175_274 (show mt_m 12 451 = some (175, 0) by decide +kernel) (rest := [.long s3, .int s4, .ref s5]) rfl (as := [.ref l1, .int (g11 i11)]) rfl h16 (Or.inl h17) ⟨Nat.le_of_ble_eq_true rfl, Nat.le_of_ble_eq_true rfl, Nat.le_of_ble_eq_true rfl⟩ h18
theorem b_175_277 {d : Nat} {Q : (Option Value ⊕ Nat) → mi_H → Prop} (n sl : Nat) (f : Nat → mi_C) {l1 : Nat} {l2 : Int32} {s3 : Int64} {s4 : Int64} {s5 : Int32} {s6 : Nat} {fs7 : List Value} (h8 : f s6 = .inr (12, fs7)) (h9 : s6 < n) (h10 : mi_W d 178 0 (mi_en 9 [.ref s6, .int s5, .long s4, .long s3]) [] (n, sl, f) (mi_Kc d 175 277 [some (.ref l1), some (.int l2)] [] Q)) : mi_W (d + 1) 175 277 [some (.ref l1), some (.int l2)] [.long s3, .long s4, .int s5, .ref s6] (n, sl, f) Q := by
  exact w_invokevirtual cd_175_277 (show mt_m 12 480 = some (178, 0) by decide +kernel) (rest := []) rfl (as := [.ref s6, .int s5, .long s4, .long s3]) rfl h8 (Or.inl h9) ⟨Nat.le_of_ble_eq_true rfl, Nat.le_of_ble_eq_true rfl, Nat.le_of_ble_eq_true rfl⟩ h10
theorem b_175_280 {d : Nat} {Q : (Option Value ⊕ Nat) → mi_H → Prop} (n sl : Nat) (f : Nat → mi_C) {l1 : Nat} {l2 : Int32} {s3 : Int64} (h4 : Q (.inl (some (.long s3))) (n, sl, f)) : mi_W d 175 280 [some (.ref l1), some (.int l2)] [.long s3] (n, sl, f) Q := by
  exact w_lreturn cd_175_280 (by decide +kernel) h4
end
