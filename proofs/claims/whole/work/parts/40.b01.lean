section
/-! MarloweHost$Reader.readName(LMarloweHost$Names;)I -/
set_option maxRecDepth 100000 in
theorem mq_43 : mt_q 43 = my_43 := rfl
set_option maxRecDepth 100000 in
theorem ci_43 : mt_inc 0 my_43.cd = true := by decide +kernel
theorem cd_43_0 : mt_cd 43 0 = some (.aload_n 0) := mt_cd_of (q := (0, .aload_n 0, 1)) mq_43 ci_43 (List.mem_of_getElem? (i := 0) rfl)
theorem cd_43_1 : mt_cd 43 1 = some (.aload_n 0) := mt_cd_of (q := (1, .aload_n 0, 1)) mq_43 ci_43 (List.mem_of_getElem? (i := 1) rfl)
theorem cd_43_2 : mt_cd 43 2 = some (.getfield 15) := mt_cd_of (q := (2, .getfield 15, 3)) mq_43 ci_43 (List.mem_of_getElem? (i := 2) rfl)
theorem cd_43_5 : mt_cd 43 5 = some (.getfield 67) := mt_cd_of (q := (5, .getfield 67, 3)) mq_43 ci_43 (List.mem_of_getElem? (i := 3) rfl)
theorem cd_43_8 : mt_cd 43 8 = some (.bipush 38) := mt_cd_of (q := (8, .bipush 38, 2)) mq_43 ci_43 (List.mem_of_getElem? (i := 4) rfl)
theorem cd_43_10 : mt_cd 43 10 = some (.if_icmp .ne 7) := mt_cd_of (q := (10, .if_icmp .ne 7, 3)) mq_43 ci_43 (List.mem_of_getElem? (i := 5) rfl)
theorem cd_43_13 : mt_cd 43 13 = some (.iconst 1) := mt_cd_of (q := (13, .iconst 1, 1)) mq_43 ci_43 (List.mem_of_getElem? (i := 6) rfl)
theorem cd_43_14 : mt_cd 43 14 = some (.goto 4) := mt_cd_of (q := (14, .goto 4, 3)) mq_43 ci_43 (List.mem_of_getElem? (i := 7) rfl)
theorem cd_43_17 : mt_cd 43 17 = some (.iconst 0) := mt_cd_of (q := (17, .iconst 0, 1)) mq_43 ci_43 (List.mem_of_getElem? (i := 8) rfl)
theorem cd_43_18 : mt_cd 43 18 = some (.invokevirtual 70) := mt_cd_of (q := (18, .invokevirtual 70, 3)) mq_43 ci_43 (List.mem_of_getElem? (i := 9) rfl)
theorem cd_43_21 : mt_cd 43 21 = some (.aload_n 1) := mt_cd_of (q := (21, .aload_n 1, 1)) mq_43 ci_43 (List.mem_of_getElem? (i := 10) rfl)
theorem cd_43_22 : mt_cd 43 22 = some (.aload_n 0) := mt_cd_of (q := (22, .aload_n 0, 1)) mq_43 ci_43 (List.mem_of_getElem? (i := 11) rfl)
theorem cd_43_23 : mt_cd 43 23 = some (.getfield 15) := mt_cd_of (q := (23, .getfield 15, 3)) mq_43 ci_43 (List.mem_of_getElem? (i := 12) rfl)
theorem cd_43_26 : mt_cd 43 26 = some (.getfield 74) := mt_cd_of (q := (26, .getfield 74, 3)) mq_43 ci_43 (List.mem_of_getElem? (i := 13) rfl)
theorem cd_43_29 : mt_cd 43 29 = some (.aload_n 0) := mt_cd_of (q := (29, .aload_n 0, 1)) mq_43 ci_43 (List.mem_of_getElem? (i := 14) rfl)
theorem cd_43_30 : mt_cd 43 30 = some (.getfield 15) := mt_cd_of (q := (30, .getfield 15, 3)) mq_43 ci_43 (List.mem_of_getElem? (i := 15) rfl)
theorem cd_43_33 : mt_cd 43 33 = some (.getfield 170) := mt_cd_of (q := (33, .getfield 170, 3)) mq_43 ci_43 (List.mem_of_getElem? (i := 16) rfl)
theorem cd_43_36 : mt_cd 43 36 = some (.iconst (-1)) := mt_cd_of (q := (36, .iconst (-1), 1)) mq_43 ci_43 (List.mem_of_getElem? (i := 17) rfl)
theorem cd_43_37 : mt_cd 43 37 = some (.invokevirtual 173) := mt_cd_of (q := (37, .invokevirtual 173, 3)) mq_43 ci_43 (List.mem_of_getElem? (i := 18) rfl)
theorem cd_43_40 : mt_cd 43 40 = some (.istore_n 2) := mt_cd_of (q := (40, .istore_n 2, 1)) mq_43 ci_43 (List.mem_of_getElem? (i := 19) rfl)
theorem cd_43_41 : mt_cd 43 41 = some (.aload_n 0) := mt_cd_of (q := (41, .aload_n 0, 1)) mq_43 ci_43 (List.mem_of_getElem? (i := 20) rfl)
theorem cd_43_42 : mt_cd 43 42 = some (.iload_n 2) := mt_cd_of (q := (42, .iload_n 2, 1)) mq_43 ci_43 (List.mem_of_getElem? (i := 21) rfl)
theorem cd_43_43 : mt_cd 43 43 = some (.iconst (-1)) := mt_cd_of (q := (43, .iconst (-1), 1)) mq_43 ci_43 (List.mem_of_getElem? (i := 22) rfl)
theorem cd_43_44 : mt_cd 43 44 = some (.if_icmp .eq 7) := mt_cd_of (q := (44, .if_icmp .eq 7, 3)) mq_43 ci_43 (List.mem_of_getElem? (i := 23) rfl)
theorem cd_43_47 : mt_cd 43 47 = some (.iconst 1) := mt_cd_of (q := (47, .iconst 1, 1)) mq_43 ci_43 (List.mem_of_getElem? (i := 24) rfl)
theorem cd_43_48 : mt_cd 43 48 = some (.goto 4) := mt_cd_of (q := (48, .goto 4, 3)) mq_43 ci_43 (List.mem_of_getElem? (i := 25) rfl)
theorem cd_43_51 : mt_cd 43 51 = some (.iconst 0) := mt_cd_of (q := (51, .iconst 0, 1)) mq_43 ci_43 (List.mem_of_getElem? (i := 26) rfl)
theorem cd_43_52 : mt_cd 43 52 = some (.invokevirtual 70) := mt_cd_of (q := (52, .invokevirtual 70, 3)) mq_43 ci_43 (List.mem_of_getElem? (i := 27) rfl)
theorem cd_43_55 : mt_cd 43 55 = some (.aload_n 0) := mt_cd_of (q := (55, .aload_n 0, 1)) mq_43 ci_43 (List.mem_of_getElem? (i := 28) rfl)
theorem cd_43_56 : mt_cd 43 56 = some (.getfield 15) := mt_cd_of (q := (56, .getfield 15, 3)) mq_43 ci_43 (List.mem_of_getElem? (i := 29) rfl)
theorem cd_43_59 : mt_cd 43 59 = some (.invokevirtual 84) := mt_cd_of (q := (59, .invokevirtual 84, 3)) mq_43 ci_43 (List.mem_of_getElem? (i := 30) rfl)
theorem cd_43_62 : mt_cd 43 62 = some (.iload_n 2) := mt_cd_of (q := (62, .iload_n 2, 1)) mq_43 ci_43 (List.mem_of_getElem? (i := 31) rfl)
theorem cd_43_63 : mt_cd 43 63 = some (.ireturn) := mt_cd_of (q := (63, .ireturn, 1)) mq_43 ci_43 (List.mem_of_getElem? (i := 32) rfl)
theorem b_43_0 {d : Nat} {Q : (Option Value ⊕ Nat) → mi_H → Prop} (n sl : Nat) (f : Nat → mi_C) {l1 : Nat} {l2 : Nat} {o3 : Option Value} {fs4 : List Value} {x7 : Nat} {fs9 : List Value} {x12 : Int32} (h5 : f l1 = .inr (3, fs4)) (h6 : l1 < n) (h8 : fs4[0]? = some (.ref x7)) (h10 : f x7 = .inr (1, fs9)) (h11 : x7 < n) (h13 : fs9[2]? = some (.int x12)) (h14 : ¬ x12 = 38 → mi_W d 43 17 [some (.ref l1), some (.ref l2), o3] [.ref l1] (n, sl, f) Q) (h15 : ¬ (¬ x12 = 38) → mi_W d 43 13 [some (.ref l1), some (.ref l2), o3] [.ref l1] (n, sl, f) Q) : mi_W d 43 0 [some (.ref l1), some (.ref l2), o3] [] (n, sl, f) Q := by
  refine w_aload_n cd_43_0 rfl ?_
  refine w_aload_n cd_43_1 rfl ?_
  refine w_getfield cd_43_2 (show mt_f 3 15 = some (3, 0) by decide +kernel) h5 h6 h8 ?_
  refine w_getfield cd_43_5 (show mt_f 3 67 = some (1, 2) by decide +kernel) h10 h11 h13 ?_
  refine w_bipush (v := 38) cd_43_8 (by decide) ?_
  exact w_if_icmpne cd_43_10 (by decide) h14 h15
theorem b_43_13 {d : Nat} {Q : (Option Value ⊕ Nat) → mi_H → Prop} (n sl : Nat) (f : Nat → mi_C) {l1 : Nat} {l2 : Nat} {o3 : Option Value} {s4 : Nat} (h5 : mi_W d 43 18 [some (.ref l1), some (.ref l2), o3] [.int 1, .ref s4] (n, sl, f) Q) : mi_W d 43 13 [some (.ref l1), some (.ref l2), o3] [.ref s4] (n, sl, f) Q := by
  refine w_iconst (v := 1) cd_43_13 (by decide) ?_
  exact w_goto cd_43_14 (by decide) h5
theorem b_43_17 {d : Nat} {Q : (Option Value ⊕ Nat) → mi_H → Prop} (n sl : Nat) (f : Nat → mi_C) {l1 : Nat} {l2 : Nat} {o3 : Option Value} {s4 : Nat} (h5 : mi_W d 43 18 [some (.ref l1), some (.ref l2), o3] [.int 0, .ref s4] (n, sl, f) Q) : mi_W d 43 17 [some (.ref l1), some (.ref l2), o3] [.ref s4] (n, sl, f) Q := by
  refine w_iconst (v := 0) cd_43_17 (by decide) ?_
  exact h5
theorem b_43_18 {d : Nat} {Q : (Option Value ⊕ Nat) → mi_H → Prop} (n sl : Nat) (f : Nat → mi_C) {l1 : Nat} {l2 : Nat} {o3 : Option Value} {s4 : Int32} {s5 : Nat} {fs6 : List Value} (h7 : f s5 = .inr (3, fs6)) (h8 : s5 < n) (h9 : mi_W d 38 0 (mi_en 2 [.ref s5, .int s4]) [] (n, sl, f) (mi_Kc d 43 18 [some (.ref l1), some (.ref l2), o3] [] Q)) : mi_W (d + 1) 43 18 [some (.ref l1), some (.ref l2), o3] [.int s4, .ref s5] (n, sl, f) Q := by
  exact w_invokevirtual cd_43_18 (show mt_m 3 70 = some (38, 0) by decide +kernel) (rest := []) rfl (as := [.ref s5, .int s4]) rfl h7 (Or.inl h8) ⟨Nat.le_of_ble_eq_true rfl, Nat.le_of_ble_eq_true rfl, Nat.le_of_ble_eq_true rfl⟩ h9
theorem b_43_21 {d : Nat} {Q : (Option Value ⊕ Nat) → mi_H → Prop} (n sl : Nat) (f : Nat → mi_C) {l1 : Nat} {l2 : Nat} {o3 : Option Value} {fs4 : List Value} {x7 : Nat} {fs9 : List Value} {x12 : Int32} {fs14 : List Value} {x17 : Nat} {fs19 : List Value} {x22 : Int32} {fs24 : List Value} (h5 : f l1 = .inr (3, fs4)) (h6 : l1 < n) (h8 : fs4[0]? = some (.ref x7)) (h10 : f x7 = .inr (1, fs9)) (h11 : x7 < n) (h13 : fs9[3]? = some (.int x12)) (h15 : f l1 = .inr (3, fs14)) (h16 : l1 < n) (h18 : fs14[0]? = some (.ref x17)) (h20 : f x17 = .inr (1, fs19)) (h21 : x17 < n) (h23 : fs19[4]? = some (.int x22)) (h25 : f l2 = .inr (4, fs24)) (h26 : l2 < n) (h27 : mi_W d 44 0 (mi_en 5 [.ref l2, .int x12, .int x22, .int (-1)]) [] (n, sl, f) (mi_Kc d 43 37 [some (.ref l1), some (.ref l2), o3] [] Q)) : mi_W (d + 1) 43 21 [some (.ref l1), some (.ref l2), o3] [] (n, sl, f) Q := by
  refine w_aload_n cd_43_21 rfl ?_
  refine w_aload_n cd_43_22 rfl ?_
  refine w_getfield cd_43_23 (show mt_f 3 15 = some (3, 0) by decide +kernel) h5 h6 h8 ?_
  refine w_getfield cd_43_26 (show mt_f 3 74 = some (1, 3) by decide +kernel) h10 h11 h13 ?_
  refine w_aload_n cd_43_29 rfl ?_
  refine w_getfield cd_43_30 (show mt_f 3 15 = some (3, 0) by decide +kernel) h15 h16 h18 ?_
  refine w_getfield cd_43_33 (show mt_f 3 170 = some (1, 4) by decide +kernel) h20 h21 h23 ?_
  refine w_iconst (v := (-1)) cd_43_36 (by decide) ?_
  exact w_invokevirtual cd_43_37 (show mt_m 3 173 = some (44, 0) by decide +kernel) (rest := []) rfl (as := [.ref l2, .int x12, .int x22, .int (-1)]) rfl h25 (Or.inl h26) ⟨Nat.le_of_ble_eq_true rfl, Nat.le_of_ble_eq_true rfl, Nat.le_of_ble_eq_true rfl⟩ h27
theorem b_43_40 {d : Nat} {Q : (Option Value ⊕ Nat) → mi_H → Prop} (n sl : Nat) (f : Nat → mi_C) {l1 : Nat} {l2 : Nat} {o3 : Option Value} {s4 : Int32} (h5 : s4 = ((-1)) → mi_W d 43 51 [some (.ref l1), some (.ref l2), some (.int s4)] [.ref l1] (n, sl, f) Q) (h6 : ¬ (s4 = ((-1))) → mi_W d 43 47 [some (.ref l1), some (.ref l2), some (.int s4)] [.ref l1] (n, sl, f) Q) : mi_W d 43 40 [some (.ref l1), some (.ref l2), o3] [.int s4] (n, sl, f) Q := by
  refine w_istore_n (ls' := [some (.ref l1), some (.ref l2), some (.int s4)]) cd_43_40 (Nat.le_of_ble_eq_true rfl) rfl ?_
  refine w_aload_n cd_43_41 rfl ?_
  refine w_iload_n cd_43_42 rfl ?_
  refine w_iconst (v := (-1)) cd_43_43 (by decide) ?_
  exact w_if_icmpeq cd_43_44 (by decide) h5 h6
theorem b_43_47 {d : Nat} {Q : (Option Value ⊕ Nat) → mi_H → Prop} (n sl : Nat) (f : Nat → mi_C) {l1 : Nat} {l2 : Nat} {l3 : Int32} {s4 : Nat} (h5 : mi_W d 43 52 [some (.ref l1), some (.ref l2), some (.int l3)] [.int 1, .ref s4] (n, sl, f) Q) : mi_W d 43 47 [some (.ref l1), some (.ref l2), some (.int l3)] [.ref s4] (n, sl, f) Q := by
  refine w_iconst (v := 1) cd_43_47 (by decide) ?_
  exact w_goto cd_43_48 (by decide) h5
theorem b_43_51 {d : Nat} {Q : (Option Value ⊕ Nat) → mi_H → Prop} (n sl : Nat) (f : Nat → mi_C) {l1 : Nat} {l2 : Nat} {l3 : Int32} {s4 : Nat} (h5 : mi_W d 43 52 [some (.ref l1), some (.ref l2), some (.int l3)] [.int 0, .ref s4] (n, sl, f) Q) : mi_W d 43 51 [some (.ref l1), some (.ref l2), some (.int l3)] [.ref s4] (n, sl, f) Q := by
  refine w_iconst (v := 0) cd_43_51 (by decide) ?_
  exact h5
theorem b_43_52 {d : Nat} {Q : (Option Value ⊕ Nat) → mi_H → Prop} (n sl : Nat) (f : Nat → mi_C) {l1 : Nat} {l2 : Nat} {l3 : Int32} {s4 : Int32} {s5 : Nat} {fs6 : List Value} (h7 : f s5 = .inr (3, fs6)) (h8 : s5 < n) (h9 : mi_W d 38 0 (mi_en 2 [.ref s5, .int s4]) [] (n, sl, f) (mi_Kc d 43 52 [some (.ref l1), some (.ref l2), some (.int l3)] [] Q)) : mi_W (d + 1) 43 52 [some (.ref l1), some (.ref l2), some (.int l3)] [.int s4, .ref s5] (n, sl, f) Q := by
  exact w_invokevirtual cd_43_52 (show mt_m 3 70 = some (38, 0) by decide +kernel) (rest := []) rfl (as := [.ref s5, .int s4]) rfl h7 (Or.inl h8) ⟨Nat.le_of_ble_eq_true rfl, Nat.le_of_ble_eq_true rfl, Nat.le_of_ble_eq_true rfl⟩ h9
theorem b_43_55 {d : Nat} {Q : (Option Value ⊕ Nat) → mi_H → Prop} (n sl : Nat) (f : Nat → mi_C) {l1 : Nat} {l2 : Nat} {l3 : Int32} {fs4 : List Value} {x7 : Nat} {fs9 : List Value} (h5 : f l1 = .inr (3, fs4)) (h6 : l1 < n) (h8 : fs4[0]? = some (.ref x7)) (h10 : f x7 = .inr (1, fs9)) (h11 : x7 < n) (h12 : mi_W d 24 0 (mi_en 2 [.ref x7]) [] (n, sl, f) (mi_Kc d 43 59 [some (.ref l1), some (.ref l2), some (.int l3)] [] Q)) : mi_W (d + 1) 43 55 [some (.ref l1), some (.ref l2), some (.int l3)] [] (n, sl, f) Q := by
  refine w_aload_n cd_43_55 rfl ?_
  refine w_getfield cd_43_56 (show mt_f 3 15 = some (3, 0) by decide +kernel) h5 h6 h8 ?_
  exact w_invokevirtual cd_43_59 (show mt_m 3 84 = some (24, 0) by decide +kernel) (rest := []) rfl (as := [.ref x7]) rfl h10 (Or.inl h11) ⟨Nat.le_of_ble_eq_true rfl, Nat.le_of_ble_eq_true rfl, Nat.le_of_ble_eq_true rfl⟩ h12
theorem b_43_62 {d : Nat} {Q : (Option Value ⊕ Nat) → mi_H → Prop} (n sl : Nat) (f : Nat → mi_C) {l1 : Nat} {l2 : Nat} {l3 : Int32} (h4 : Q (.inl (some (.int l3))) (n, sl, f)) : mi_W d 43 62 [some (.ref l1), some (.ref l2), some (.int l3)] [] (n, sl, f) Q := by
  refine w_iload_n cd_43_62 rfl ?_
  exact w_ireturn_i cd_43_63 (by decide +kernel) h4
/-! MarloweHost$Names.numberOf(III)I -/
set_option maxRecDepth 100000 in
theorem mq_44 : mt_q 44 = my_44 := rfl
set_option maxRecDepth 100000 in
theorem ci_44 : mt_inc 0 my_44.cd = true := by decide +kernel
theorem cd_44_0 : mt_cd 44 0 = some (.iconst 0) := mt_cd_of (q := (0, .iconst 0, 1)) mq_44 ci_44 (List.mem_of_getElem? (i := 0) rfl)
theorem cd_44_1 : mt_cd 44 1 = some (.istore 4) := mt_cd_of (q := (1, .istore 4, 2)) mq_44 ci_44 (List.mem_of_getElem? (i := 1) rfl)
theorem cd_44_3 : mt_cd 44 3 = some (.iload 4) := mt_cd_of (q := (3, .iload 4, 2)) mq_44 ci_44 (List.mem_of_getElem? (i := 2) rfl)
theorem cd_44_5 : mt_cd 44 5 = some (.aload_n 0) := mt_cd_of (q := (5, .aload_n 0, 1)) mq_44 ci_44 (List.mem_of_getElem? (i := 3) rfl)
theorem cd_44_6 : mt_cd 44 6 = some (.getfield 25) := mt_cd_of (q := (6, .getfield 25, 3)) mq_44 ci_44 (List.mem_of_getElem? (i := 4) rfl)
theorem cd_44_9 : mt_cd 44 9 = some (.if_icmp .ge 50) := mt_cd_of (q := (9, .if_icmp .ge 50, 3)) mq_44 ci_44 (List.mem_of_getElem? (i := 5) rfl)
theorem cd_44_12 : mt_cd 44 12 = some (.aload_n 0) := mt_cd_of (q := (12, .aload_n 0, 1)) mq_44 ci_44 (List.mem_of_getElem? (i := 6) rfl)
theorem cd_44_13 : mt_cd 44 13 = some (.getfield 22) := mt_cd_of (q := (13, .getfield 22, 3)) mq_44 ci_44 (List.mem_of_getElem? (i := 7) rfl)
theorem cd_44_16 : mt_cd 44 16 = some (.iload 4) := mt_cd_of (q := (16, .iload 4, 2)) mq_44 ci_44 (List.mem_of_getElem? (i := 8) rfl)
theorem cd_44_18 : mt_cd 44 18 = some (.iaload) := mt_cd_of (q := (18, .iaload, 1)) mq_44 ci_44 (List.mem_of_getElem? (i := 9) rfl)
theorem cd_44_19 : mt_cd 44 19 = some (.iload_n 3) := mt_cd_of (q := (19, .iload_n 3, 1)) mq_44 ci_44 (List.mem_of_getElem? (i := 10) rfl)
theorem cd_44_20 : mt_cd 44 20 = some (.if_icmp .ne 33) := mt_cd_of (q := (20, .if_icmp .ne 33, 3)) mq_44 ci_44 (List.mem_of_getElem? (i := 11) rfl)
theorem cd_44_23 : mt_cd 44 23 = some (.aload_n 0) := mt_cd_of (q := (23, .aload_n 0, 1)) mq_44 ci_44 (List.mem_of_getElem? (i := 12) rfl)
theorem cd_44_24 : mt_cd 44 24 = some (.getfield 19) := mt_cd_of (q := (24, .getfield 19, 3)) mq_44 ci_44 (List.mem_of_getElem? (i := 13) rfl)
theorem cd_44_27 : mt_cd 44 27 = some (.iload 4) := mt_cd_of (q := (27, .iload 4, 2)) mq_44 ci_44 (List.mem_of_getElem? (i := 14) rfl)
theorem cd_44_29 : mt_cd 44 29 = some (.iaload) := mt_cd_of (q := (29, .iaload, 1)) mq_44 ci_44 (List.mem_of_getElem? (i := 15) rfl)
theorem cd_44_30 : mt_cd 44 30 = some (.iload_n 2) := mt_cd_of (q := (30, .iload_n 2, 1)) mq_44 ci_44 (List.mem_of_getElem? (i := 16) rfl)
theorem cd_44_31 : mt_cd 44 31 = some (.if_icmp .ne 22) := mt_cd_of (q := (31, .if_icmp .ne 22, 3)) mq_44 ci_44 (List.mem_of_getElem? (i := 17) rfl)
theorem cd_44_34 : mt_cd 44 34 = some (.aload_n 0) := mt_cd_of (q := (34, .aload_n 0, 1)) mq_44 ci_44 (List.mem_of_getElem? (i := 18) rfl)
theorem cd_44_35 : mt_cd 44 35 = some (.aload_n 0) := mt_cd_of (q := (35, .aload_n 0, 1)) mq_44 ci_44 (List.mem_of_getElem? (i := 19) rfl)
theorem cd_44_36 : mt_cd 44 36 = some (.getfield 15) := mt_cd_of (q := (36, .getfield 15, 3)) mq_44 ci_44 (List.mem_of_getElem? (i := 20) rfl)
theorem cd_44_39 : mt_cd 44 39 = some (.iload 4) := mt_cd_of (q := (39, .iload 4, 2)) mq_44 ci_44 (List.mem_of_getElem? (i := 21) rfl)
theorem cd_44_41 : mt_cd 44 41 = some (.iaload) := mt_cd_of (q := (41, .iaload, 1)) mq_44 ci_44 (List.mem_of_getElem? (i := 22) rfl)
theorem cd_44_42 : mt_cd 44 42 = some (.iload_n 1) := mt_cd_of (q := (42, .iload_n 1, 1)) mq_44 ci_44 (List.mem_of_getElem? (i := 23) rfl)
theorem cd_44_43 : mt_cd 44 43 = some (.iload_n 2) := mt_cd_of (q := (43, .iload_n 2, 1)) mq_44 ci_44 (List.mem_of_getElem? (i := 24) rfl)
theorem cd_44_44 : mt_cd 44 44 = some (.invokevirtual 29) := mt_cd_of (q := (44, .invokevirtual 29, 3)) mq_44 ci_44 (List.mem_of_getElem? (i := 25) rfl)
theorem cd_44_47 : mt_cd 44 47 = some (.ifCond .eq 6) := mt_cd_of (q := (47, .ifCond .eq 6, 3)) mq_44 ci_44 (List.mem_of_getElem? (i := 26) rfl)
theorem cd_44_50 : mt_cd 44 50 = some (.iload 4) := mt_cd_of (q := (50, .iload 4, 2)) mq_44 ci_44 (List.mem_of_getElem? (i := 27) rfl)
theorem cd_44_52 : mt_cd 44 52 = some (.ireturn) := mt_cd_of (q := (52, .ireturn, 1)) mq_44 ci_44 (List.mem_of_getElem? (i := 28) rfl)
theorem cd_44_53 : mt_cd 44 53 = some (.iinc 4 1) := mt_cd_of (q := (53, .iinc 4 1, 3)) mq_44 ci_44 (List.mem_of_getElem? (i := 29) rfl)
theorem cd_44_56 : mt_cd 44 56 = some (.goto (-53)) := mt_cd_of (q := (56, .goto (-53), 3)) mq_44 ci_44 (List.mem_of_getElem? (i := 30) rfl)
theorem cd_44_59 : mt_cd 44 59 = some (.aload_n 0) := mt_cd_of (q := (59, .aload_n 0, 1)) mq_44 ci_44 (List.mem_of_getElem? (i := 31) rfl)
theorem cd_44_60 : mt_cd 44 60 = some (.getfield 25) := mt_cd_of (q := (60, .getfield 25, 3)) mq_44 ci_44 (List.mem_of_getElem? (i := 32) rfl)
theorem cd_44_63 : mt_cd 44 63 = some (.aload_n 0) := mt_cd_of (q := (63, .aload_n 0, 1)) mq_44 ci_44 (List.mem_of_getElem? (i := 33) rfl)
theorem cd_44_64 : mt_cd 44 64 = some (.getfield 15) := mt_cd_of (q := (64, .getfield 15, 3)) mq_44 ci_44 (List.mem_of_getElem? (i := 34) rfl)
theorem cd_44_67 : mt_cd 44 67 = some (.arraylength) := mt_cd_of (q := (67, .arraylength, 1)) mq_44 ci_44 (List.mem_of_getElem? (i := 35) rfl)
theorem cd_44_68 : mt_cd 44 68 = some (.if_icmp .lt 5) := mt_cd_of (q := (68, .if_icmp .lt 5, 3)) mq_44 ci_44 (List.mem_of_getElem? (i := 36) rfl)
theorem cd_44_71 : mt_cd 44 71 = some (.iconst (-1)) := mt_cd_of (q := (71, .iconst (-1), 1)) mq_44 ci_44 (List.mem_of_getElem? (i := 37) rfl)
theorem cd_44_72 : mt_cd 44 72 = some (.ireturn) := mt_cd_of (q := (72, .ireturn, 1)) mq_44 ci_44 (List.mem_of_getElem? (i := 38) rfl)
theorem cd_44_73 : mt_cd 44 73 = some (.aload_n 0) := mt_cd_of (q := (73, .aload_n 0, 1)) mq_44 ci_44 (List.mem_of_getElem? (i := 39) rfl)
theorem cd_44_74 : mt_cd 44 74 = some (.getfield 15) := mt_cd_of (q := (74, .getfield 15, 3)) mq_44 ci_44 (List.mem_of_getElem? (i := 40) rfl)
theorem cd_44_77 : mt_cd 44 77 = some (.aload_n 0) := mt_cd_of (q := (77, .aload_n 0, 1)) mq_44 ci_44 (List.mem_of_getElem? (i := 41) rfl)
theorem cd_44_78 : mt_cd 44 78 = some (.getfield 25) := mt_cd_of (q := (78, .getfield 25, 3)) mq_44 ci_44 (List.mem_of_getElem? (i := 42) rfl)
theorem cd_44_81 : mt_cd 44 81 = some (.iload_n 1) := mt_cd_of (q := (81, .iload_n 1, 1)) mq_44 ci_44 (List.mem_of_getElem? (i := 43) rfl)
theorem cd_44_82 : mt_cd 44 82 = some (.iastore) := mt_cd_of (q := (82, .iastore, 1)) mq_44 ci_44 (List.mem_of_getElem? (i := 44) rfl)
theorem cd_44_83 : mt_cd 44 83 = some (.aload_n 0) := mt_cd_of (q := (83, .aload_n 0, 1)) mq_44 ci_44 (List.mem_of_getElem? (i := 45) rfl)
theorem cd_44_84 : mt_cd 44 84 = some (.getfield 19) := mt_cd_of (q := (84, .getfield 19, 3)) mq_44 ci_44 (List.mem_of_getElem? (i := 46) rfl)
theorem cd_44_87 : mt_cd 44 87 = some (.aload_n 0) := mt_cd_of (q := (87, .aload_n 0, 1)) mq_44 ci_44 (List.mem_of_getElem? (i := 47) rfl)
theorem cd_44_88 : mt_cd 44 88 = some (.getfield 25) := mt_cd_of (q := (88, .getfield 25, 3)) mq_44 ci_44 (List.mem_of_getElem? (i := 48) rfl)
theorem cd_44_91 : mt_cd 44 91 = some (.iload_n 2) := mt_cd_of (q := (91, .iload_n 2, 1)) mq_44 ci_44 (List.mem_of_getElem? (i := 49) rfl)
theorem cd_44_92 : mt_cd 44 92 = some (.iastore) := mt_cd_of (q := (92, .iastore, 1)) mq_44 ci_44 (List.mem_of_getElem? (i := 50) rfl)
theorem cd_44_93 : mt_cd 44 93 = some (.aload_n 0) := mt_cd_of (q := (93, .aload_n 0, 1)) mq_44 ci_44 (List.mem_of_getElem? (i := 51) rfl)
theorem cd_44_94 : mt_cd 44 94 = some (.getfield 22) := mt_cd_of (q := (94, .getfield 22, 3)) mq_44 ci_44 (List.mem_of_getElem? (i := 52) rfl)
theorem cd_44_97 : mt_cd 44 97 = some (.aload_n 0) := mt_cd_of (q := (97, .aload_n 0, 1)) mq_44 ci_44 (List.mem_of_getElem? (i := 53) rfl)
theorem cd_44_98 : mt_cd 44 98 = some (.getfield 25) := mt_cd_of (q := (98, .getfield 25, 3)) mq_44 ci_44 (List.mem_of_getElem? (i := 54) rfl)
theorem cd_44_101 : mt_cd 44 101 = some (.iload_n 3) := mt_cd_of (q := (101, .iload_n 3, 1)) mq_44 ci_44 (List.mem_of_getElem? (i := 55) rfl)
theorem cd_44_102 : mt_cd 44 102 = some (.iastore) := mt_cd_of (q := (102, .iastore, 1)) mq_44 ci_44 (List.mem_of_getElem? (i := 56) rfl)
theorem cd_44_103 : mt_cd 44 103 = some (.aload_n 0) := mt_cd_of (q := (103, .aload_n 0, 1)) mq_44 ci_44 (List.mem_of_getElem? (i := 57) rfl)
theorem cd_44_104 : mt_cd 44 104 = some (.dup) := mt_cd_of (q := (104, .dup, 1)) mq_44 ci_44 (List.mem_of_getElem? (i := 58) rfl)
theorem cd_44_105 : mt_cd 44 105 = some (.getfield 25) := mt_cd_of (q := (105, .getfield 25, 3)) mq_44 ci_44 (List.mem_of_getElem? (i := 59) rfl)
theorem cd_44_108 : mt_cd 44 108 = some (.iconst 1) := mt_cd_of (q := (108, .iconst 1, 1)) mq_44 ci_44 (List.mem_of_getElem? (i := 60) rfl)
theorem cd_44_109 : mt_cd 44 109 = some (.iadd) := mt_cd_of (q := (109, .iadd, 1)) mq_44 ci_44 (List.mem_of_getElem? (i := 61) rfl)
theorem cd_44_110 : mt_cd 44 110 = some (.putfield 25) := mt_cd_of (q := (110, .putfield 25, 3)) mq_44 ci_44 (List.mem_of_getElem? (i := 62) rfl)
theorem cd_44_113 : mt_cd 44 113 = some (.aload_n 0) := mt_cd_of (q := (113, .aload_n 0, 1)) mq_44 ci_44 (List.mem_of_getElem? (i := 63) rfl)
theorem cd_44_114 : mt_cd 44 114 = some (.getfield 25) := mt_cd_of (q := (114, .getfield 25, 3)) mq_44 ci_44 (List.mem_of_getElem? (i := 64) rfl)
theorem cd_44_117 : mt_cd 44 117 = some (.iconst 1) := mt_cd_of (q := (117, .iconst 1, 1)) mq_44 ci_44 (List.mem_of_getElem? (i := 65) rfl)
theorem cd_44_118 : mt_cd 44 118 = some (.isub) := mt_cd_of (q := (118, .isub, 1)) mq_44 ci_44 (List.mem_of_getElem? (i := 66) rfl)
theorem cd_44_119 : mt_cd 44 119 = some (.ireturn) := mt_cd_of (q := (119, .ireturn, 1)) mq_44 ci_44 (List.mem_of_getElem? (i := 67) rfl)
theorem b_44_0 {d : Nat} {Q : (Option Value ⊕ Nat) → mi_H → Prop} (n sl : Nat) (f : Nat → mi_C) {l1 : Nat} {l2 : Int32} {l3 : Int32} {l4 : Int32} {o5 : Option Value} (h6 : mi_W d 44 3 [some (.ref l1), some (.int l2), some (.int l3), some (.int l4), some (.int 0)] [] (n, sl, f) Q) : mi_W d 44 0 [some (.ref l1), some (.int l2), some (.int l3), some (.int l4), o5] [] (n, sl, f) Q := by
  refine w_iconst (v := 0) cd_44_0 (by decide) ?_
  refine w_istore (ls' := [some (.ref l1), some (.int l2), some (.int l3), some (.int l4), some (.int 0)]) cd_44_1 (Nat.le_of_ble_eq_true rfl) rfl ?_
  exact h6
theorem b_44_3 {d : Nat} {Q : (Option Value ⊕ Nat) → mi_H → Prop} (n sl : Nat) (f : Nat → mi_C) {l1 : Nat} {l2 : Int32} {l3 : Int32} {l4 : Int32} {l5 : Int32} {fs6 : List Value} {x9 : Int32} (h7 : f l1 = .inr (4, fs6)) (h8 : l1 < n) (h10 : fs6[4]? = some (.int x9)) (h11 : x9 ≤ l5 → mi_W d 44 59 [some (.ref l1), some (.int l2), some (.int l3), some (.int l4), some (.int l5)] [] (n, sl, f) Q) (h12 : ¬ (x9 ≤ l5) → mi_W d 44 12 [some (.ref l1), some (.int l2), some (.int l3), some (.int l4), some (.int l5)] [] (n, sl, f) Q) : mi_W d 44 3 [some (.ref l1), some (.int l2), some (.int l3), some (.int l4), some (.int l5)] [] (n, sl, f) Q := by
  refine w_iload cd_44_3 rfl ?_
  refine w_aload_n cd_44_5 rfl ?_
  refine w_getfield cd_44_6 (show mt_f 4 25 = some (4, 4) by decide +kernel) h7 h8 h10 ?_
  exact w_if_icmpge cd_44_9 (by decide) h11 h12
theorem b_44_12 {d : Nat} {Q : (Option Value ⊕ Nat) → mi_H → Prop} (n sl : Nat) (f : Nat → mi_C) {l1 : Nat} {l2 : Int32} {l3 : Int32} {l4 : Int32} {l5 : Int32} {fs6 : List Value} {x9 : Nat} (m11 i11 : Nat) (g11 : Nat → Int32) (h7 : f l1 = .inr (4, fs6)) (h8 : l1 < n) (h10 : fs6[3]? = some (.ref x9)) (h12 : f x9 = .inl (0, m11, .inl g11)) (h13 : x9 < n ∨ x9 = mi_SC) (h14 : mi_ix l5 m11 i11) (h15 : ¬ (g11 i11) = l4 → mi_W d 44 53 [some (.ref l1), some (.int l2), some (.int l3), some (.int l4), some (.int l5)] [] (n, sl, f) Q) (h16 : ¬ (¬ (g11 i11) = l4) → mi_W d 44 23 [some (.ref l1), some (.int l2), some (.int l3), some (.int l4), some (.int l5)] [] (n, sl, f) Q) : mi_W d 44 12 [some (.ref l1), some (.int l2), some (.int l3), some (.int l4), some (.int l5)] [] (n, sl, f) Q := by
  refine w_aload_n cd_44_12 rfl ?_
  refine w_getfield cd_44_13 (show mt_f 4 22 = some (4, 3) by decide +kernel) h7 h8 h10 ?_
  refine w_iload cd_44_16 rfl ?_
  refine w_iaload cd_44_18 h12 h13 h14 ?_
  refine w_iload_n cd_44_19 rfl ?_
  exact w_if_icmpne cd_44_20 (by decide) h15 h16
theorem b_44_23 {d : Nat} {Q : (Option Value ⊕ Nat) → mi_H → Prop} (n sl : Nat) (f : Nat → mi_C) {l1 : Nat} {l2 : Int32} {l3 : Int32} {l4 : Int32} {l5 : Int32} {fs6 : List Value} {x9 : Nat} (m11 i11 : Nat) (g11 : Nat → Int32) (h7 : f l1 = .inr (4, fs6)) (h8 : l1 < n) (h10 : fs6[2]? = some (.ref x9)) (h12 : f x9 = .inl (0, m11, .inl g11)) (h13 : x9 < n ∨ x9 = mi_SC) (h14 : mi_ix l5 m11 i11) (h15 : ¬ (g11 i11) = l3 → mi_W d 44 53 [some (.ref l1), some (.int l2), some (.int l3), some (.int l4), some (.int l5)] [] (n, sl, f) Q) (h16 : ¬ (¬ (g11 i11) = l3) → mi_W d 44 34 [some (.ref l1), some (.int l2), some (.int l3), some (.int l4), some (.int l5)] [] (n, sl, f) Q) : mi_W d 44 23 [some (.ref l1), some (.int l2), some (.int l3), some (.int l4), some (.int l5)] [] (n, sl, f) Q := by
  refine w_aload_n cd_44_23 rfl ?_
  refine w_getfield cd_44_24 (show mt_f 4 19 = some (4, 2) by decide +kernel) h7 h8 h10 ?_
  refine w_iload cd_44_27 rfl ?_
  refine w_iaload cd_44_29 h12 h13 h14 ?_
  refine w_iload_n cd_44_30 rfl ?_
  exact w_if_icmpne cd_44_31 (by decide) h15 h16
theorem b_44_34 {d : Nat} {Q : (Option Value ⊕ Nat) → mi_H → Prop} (n sl : Nat) (f : Nat → mi_C) {l1 : Nat} {l2 : Int32} {l3 : Int32} {l4 : Int32} {l5 : Int32} {fs6 : List Value} {x9 : Nat} (m11 i11 : Nat) (g11 : Nat → Int32) {fs15 : List Value} (h7 : f l1 = .inr (4, fs6)) (h8 : l1 < n) (h10 : fs6[1]? = some (.ref x9)) (h12 : f x9 = .inl (0, m11, .inl g11)) (h13 : x9 < n ∨ x9 = mi_SC) (h14 : mi_ix l5 m11 i11) (h16 : f l1 = .inr (4, fs15)) (h17 : l1 < n) (h18 : mi_W d 45 0 (mi_en 5 [.ref l1, .int (g11 i11), .int l2, .int l3]) [] (n, sl, f) (mi_Kc d 44 44 [some (.ref l1), some (.int l2), some (.int l3), some (.int l4), some (.int l5)] [] Q)) : mi_W (d + 1) 44 34 [some (.ref l1), some (.int l2), some (.int l3), some (.int l4), some (.int l5)] [] (n, sl, f) Q := by
  refine w_aload_n cd_44_34 rfl ?_
  refine w_aload_n cd_44_35 rfl ?_
  refine w_getfield cd_44_36 (show mt_f 4 15 = some (4, 1) by decide +kernel) h7 h8 h10 ?_
  refine w_iload cd_44_39 rfl ?_
  refine w_iaload cd_44_41 h12 h13 h14 ?_
  refine w_iload_n cd_44_42 rfl ?_
  refine w_iload_n cd_44_43 rfl ?_
  exact w_invokevirtual cd_44_44 (show mt_m 4 29 = some (45, 0) by decide +kernel) (rest := []) rfl (as := [.ref l1, .int (g11 i11), .int l2, .int l3]) rfl h16 (Or.inl h17) ⟨Nat.le_of_ble_eq_true rfl, Nat.le_of_ble_eq_true rfl, Nat.le_of_ble_eq_true rfl⟩ h18
theorem b_44_47 {d : Nat} {Q : (Option Value ⊕ Nat) → mi_H → Prop} (n sl : Nat) (f : Nat → mi_C) {l1 : Nat} {l2 : Int32} {l3 : Int32} {l4 : Int32} {l5 : Int32} {s6 : Int32} (h7 : s6 = (0 : Int32) → mi_W d 44 53 [some (.ref l1), some (.int l2), some (.int l3), some (.int l4), some (.int l5)] [] (n, sl, f) Q) (h8 : ¬ (s6 = (0 : Int32)) → mi_W d 44 50 [some (.ref l1), some (.int l2), some (.int l3), some (.int l4), some (.int l5)] [] (n, sl, f) Q) : mi_W d 44 47 [some (.ref l1), some (.int l2), some (.int l3), some (.int l4), some (.int l5)] [.int s6] (n, sl, f) Q := by
  exact w_ifeq cd_44_47 (by decide) h7 h8
theorem b_44_50 {d : Nat} {Q : (Option Value ⊕ Nat) → mi_H → Prop} (n sl : Nat) (f : Nat → mi_C) {l1 : Nat} {l2 : Int32} {l3 : Int32} {l4 : Int32} {l5 : Int32} (h6 : Q (.inl (some (.int l5))) (n, sl, f)) : mi_W d 44 50 [some (.ref l1), some (.int l2), some (.int l3), some (.int l4), some (.int l5)] [] (n, sl, f) Q := by
  refine w_iload cd_44_50 rfl ?_
  exact w_ireturn_i cd_44_52 (by decide +kernel) h6
theorem b_44_53 {d : Nat} {Q : (Option Value ⊕ Nat) → mi_H → Prop} (n sl : Nat) (f : Nat → mi_C) {l1 : Nat} {l2 : Int32} {l3 : Int32} {l4 : Int32} {l5 : Int32} (h6 : mi_W d 44 3 [some (.ref l1), some (.int l2), some (.int l3), some (.int l4), some (.int (l5 + 1))] [] (n, sl, f) Q) : mi_W d 44 53 [some (.ref l1), some (.int l2), some (.int l3), some (.int l4), some (.int l5)] [] (n, sl, f) Q := by
  refine w_iinc (v := 1) (ls' := [some (.ref l1), some (.int l2), some (.int l3), some (.int l4), some (.int (l5 + 1))]) cd_44_53 rfl (by decide) rfl ?_
  exact w_goto cd_44_56 (by decide) h6
theorem b_44_59 {d : Nat} {Q : (Option Value ⊕ Nat) → mi_H → Prop} (n sl : Nat) (f : Nat → mi_C) {l1 : Nat} {l2 : Int32} {l3 : Int32} {l4 : Int32} {l5 : Int32} {fs6 : List Value} {x9 : Int32} {fs11 : List Value} {x14 : Nat} (m16 ka16 : Nat) (g16 : (Nat → Int32) ⊕ (Nat → Int64) ⊕ (Nat → UInt32) ⊕ (Nat → UInt64) ⊕ (Nat → Option Nat)) (h7 : f l1 = .inr (4, fs6)) (h8 : l1 < n) (h10 : fs6[4]? = some (.int x9)) (h12 : f l1 = .inr (4, fs11)) (h13 : l1 < n) (h15 : fs11[1]? = some (.ref x14)) (h17 : f x14 = .inl (ka16, m16, g16)) (h18 : x14 < n ∧ ka16 < mt_na) (h19 : x9 < (Int32.ofNat m16) → mi_W d 44 73 [some (.ref l1), some (.int l2), some (.int l3), some (.int l4), some (.int l5)] [] (n, sl, f) Q) (h20 : ¬ (x9 < (Int32.ofNat m16)) → mi_W d 44 71 [some (.ref l1), some (.int l2), some (.int l3), some (.int l4), some (.int l5)] [] (n, sl, f) Q) : mi_W d 44 59 [some (.ref l1), some (.int l2), some (.int l3), some (.int l4), some (.int l5)] [] (n, sl, f) Q := by
  refine w_aload_n cd_44_59 rfl ?_
  refine w_getfield cd_44_60 (show mt_f 4 25 = some (4, 4) by decide +kernel) h7 h8 h10 ?_
  refine w_aload_n cd_44_63 rfl ?_
  refine w_getfield cd_44_64 (show mt_f 4 15 = some (4, 1) by decide +kernel) h12 h13 h15 ?_
  refine w_arraylength cd_44_67 h17 h18 ?_
  exact w_if_icmplt cd_44_68 (by decide) h19 h20
theorem b_44_71 {d : Nat} {Q : (Option Value ⊕ Nat) → mi_H → Prop} (n sl : Nat) (f : Nat → mi_C) {l1 : Nat} {l2 : Int32} {l3 : Int32} {l4 : Int32} {l5 : Int32} (h6 : Q (.inl (some (.int (-1)))) (n, sl, f)) : mi_W d 44 71 [some (.ref l1), some (.int l2), some (.int l3), some (.int l4), some (.int l5)] [] (n, sl, f) Q := by
  refine w_iconst (v := (-1)) cd_44_71 (by decide) ?_
  exact w_ireturn_i cd_44_72 (by decide +kernel) h6
theorem b_44_73 {d : Nat} {Q : (Option Value ⊕ Nat) → mi_H → Prop} (n sl : Nat) (f : Nat → mi_C) {l1 : Nat} {l2 : Int32} {l3 : Int32} {l4 : Int32} {l5 : Int32} {fs6 : List Value} {x9 : Nat} {fs11 : List Value} {x14 : Int32} (m16 i16 : Nat) (g16 : Nat → Int32) {fs20 : List Value} {x23 : Nat} {fs25 : List Value} {x28 : Int32} (m30 i30 : Nat) (g30 : Nat → Int32) {fs34 : List Value} {x37 : Nat} {fs39 : List Value} {x42 : Int32} (m44 i44 : Nat) (g44 : Nat → Int32) {fs48 : List Value} {x51 : Int32} {fs53 : List Value} {fs57 : List Value} {x60 : Int32} (h7 : f l1 = .inr (4, fs6)) (h8 : l1 < n) (h10 : fs6[1]? = some (.ref x9)) (h12 : f l1 = .inr (4, fs11)) (h13 : l1 < n) (h15 : fs11[4]? = some (.int x14)) (h17 : f x9 = .inl (0, m16, .inl g16)) (h18 : x9 < n) (h19 : mi_ix x14 m16 i16) (h21 : (va_up f x9 (.inl (0, m16, .inl (upd g16 i16 l2)))) l1 = .inr (4, fs20)) (h22 : l1 < n) (h24 : fs20[2]? = some (.ref x23)) (h26 : (va_up f x9 (.inl (0, m16, .inl (upd g16 i16 l2)))) l1 = .inr (4, fs25)) (h27 : l1 < n) (h29 : fs25[4]? = some (.int x28)) (h31 : (va_up f x9 (.inl (0, m16, .inl (upd g16 i16 l2)))) x23 = .inl (0, m30, .inl g30)) (h32 : x23 < n) (h33 : mi_ix x28 m30 i30) (h35 : (va_up (va_up f x9 (.inl (0, m16, .inl (upd g16 i16 l2)))) x23 (.inl (0, m30, .inl (upd g30 i30 l3)))) l1 = .inr (4, fs34)) (h36 : l1 < n) (h38 : fs34[3]? = some (.ref x37)) (h40 : (va_up (va_up f x9 (.inl (0, m16, .inl (upd g16 i16 l2)))) x23 (.inl (0, m30, .inl (upd g30 i30 l3)))) l1 = .inr (4, fs39)) (h41 : l1 < n) (h43 : fs39[4]? = some (.int x42)) (h45 : (va_up (va_up f x9 (.inl (0, m16, .inl (upd g16 i16 l2)))) x23 (.inl (0, m30, .inl (upd g30 i30 l3)))) x37 = .inl (0, m44, .inl g44)) (h46 : x37 < n) (h47 : mi_ix x42 m44 i44) (h49 : (va_up (va_up (va_up f x9 (.inl (0, m16, .inl (upd g16 i16 l2)))) x23 (.inl (0, m30, .inl (upd g30 i30 l3)))) x37 (.inl (0, m44, .inl (upd g44 i44 l4)))) l1 = .inr (4, fs48)) (h50 : l1 < n) (h52 : fs48[4]? = some (.int x51)) (h54 : (va_up (va_up (va_up f x9 (.inl (0, m16, .inl (upd g16 i16 l2)))) x23 (.inl (0, m30, .inl (upd g30 i30 l3)))) x37 (.inl (0, m44, .inl (upd g44 i44 l4)))) l1 = .inr (4, fs53)) (h55 : l1 < n) (h56 : 4 < fs53.length) (h58 : (va_up (va_up (va_up (va_up f x9 (.inl (0, m16, .inl (upd g16 i16 l2)))) x23 (.inl (0, m30, .inl (upd g30 i30 l3)))) x37 (.inl (0, m44, .inl (upd g44 i44 l4)))) l1 (.inr (4, fs53.set 4 (.int (x51 + 1))))) l1 = .inr (4, fs57)) (h59 : l1 < n) (h61 : fs57[4]? = some (.int x60)) (h62 : Q (.inl (some (.int (x60 - 1)))) (n, sl, (va_up (va_up (va_up (va_up f x9 (.inl (0, m16, .inl (upd g16 i16 l2)))) x23 (.inl (0, m30, .inl (upd g30 i30 l3)))) x37 (.inl (0, m44, .inl (upd g44 i44 l4)))) l1 (.inr (4, fs53.set 4 (.int (x51 + 1))))))) : mi_W d 44 73 [some (.ref l1), some (.int l2), some (.int l3), some (.int l4), some (.int l5)] [] (n, sl, f) Q := by
  refine w_aload_n cd_44_73 rfl ?_
  refine w_getfield cd_44_74 (show mt_f 4 15 = some (4, 1) by decide +kernel) h7 h8 h10 ?_
  refine w_aload_n cd_44_77 rfl ?_
  refine w_getfield cd_44_78 (show mt_f 4 25 = some (4, 4) by decide +kernel) h12 h13 h15 ?_
  refine w_iload_n cd_44_81 rfl ?_
  refine w_iastore cd_44_82 h17 h18 h19 ?_
  refine w_aload_n cd_44_83 rfl ?_
  refine w_getfield cd_44_84 (show mt_f 4 19 = some (4, 2) by decide +kernel) h21 h22 h24 ?_
  refine w_aload_n cd_44_87 rfl ?_
  refine w_getfield cd_44_88 (show mt_f 4 25 = some (4, 4) by decide +kernel) h26 h27 h29 ?_
  refine w_iload_n cd_44_91 rfl ?_
  refine w_iastore cd_44_92 h31 h32 h33 ?_
  refine w_aload_n cd_44_93 rfl ?_
  refine w_getfield cd_44_94 (show mt_f 4 22 = some (4, 3) by decide +kernel) h35 h36 h38 ?_
  refine w_aload_n cd_44_97 rfl ?_
  refine w_getfield cd_44_98 (show mt_f 4 25 = some (4, 4) by decide +kernel) h40 h41 h43 ?_
  refine w_iload_n cd_44_101 rfl ?_
  refine w_iastore cd_44_102 h45 h46 h47 ?_
  refine w_aload_n cd_44_103 rfl ?_
  refine w_dup_r cd_44_104 ?_
  refine w_getfield cd_44_105 (show mt_f 4 25 = some (4, 4) by decide +kernel) h49 h50 h52 ?_
  refine w_iconst (v := 1) cd_44_108 (by decide) ?_
  refine w_iadd cd_44_109 ?_
  refine w_putfield (w := .int (x51 + 1)) cd_44_110 (show mt_f 4 25 = some (4, 4) by decide +kernel) h54 h55 ⟨h56, rfl, Or.inl (by decide)⟩ ?_
  refine w_aload_n cd_44_113 rfl ?_
  refine w_getfield cd_44_114 (show mt_f 4 25 = some (4, 4) by decide +kernel) h58 h59 h61 ?_
  refine w_iconst (v := 1) cd_44_117 (by decide) ?_
  refine w_isub cd_44_118 ?_
  exact w_ireturn_i cd_44_119 (by decide +kernel) h62
/-! MarloweHost$Names.isSame(III)Z -/
set_option maxRecDepth 100000 in
theorem mq_45 : mt_q 45 = my_45 := rfl
set_option maxRecDepth 100000 in
theorem ci_45 : mt_inc 0 my_45.cd = true := by decide +kernel
theorem cd_45_0 : mt_cd 45 0 = some (.iconst 0) := mt_cd_of (q := (0, .iconst 0, 1)) mq_45 ci_45 (List.mem_of_getElem? (i := 0) rfl)
theorem cd_45_1 : mt_cd 45 1 = some (.istore 4) := mt_cd_of (q := (1, .istore 4, 2)) mq_45 ci_45 (List.mem_of_getElem? (i := 1) rfl)
theorem cd_45_3 : mt_cd 45 3 = some (.iload 4) := mt_cd_of (q := (3, .iload 4, 2)) mq_45 ci_45 (List.mem_of_getElem? (i := 2) rfl)
theorem cd_45_5 : mt_cd 45 5 = some (.iload_n 3) := mt_cd_of (q := (5, .iload_n 3, 1)) mq_45 ci_45 (List.mem_of_getElem? (i := 3) rfl)
theorem cd_45_6 : mt_cd 45 6 = some (.if_icmp .ge 56) := mt_cd_of (q := (6, .if_icmp .ge 56, 3)) mq_45 ci_45 (List.mem_of_getElem? (i := 4) rfl)
theorem cd_45_9 : mt_cd 45 9 = some (.iload_n 1) := mt_cd_of (q := (9, .iload_n 1, 1)) mq_45 ci_45 (List.mem_of_getElem? (i := 5) rfl)
theorem cd_45_10 : mt_cd 45 10 = some (.iload 4) := mt_cd_of (q := (10, .iload 4, 2)) mq_45 ci_45 (List.mem_of_getElem? (i := 6) rfl)
theorem cd_45_12 : mt_cd 45 12 = some (.iadd) := mt_cd_of (q := (12, .iadd, 1)) mq_45 ci_45 (List.mem_of_getElem? (i := 7) rfl)
theorem cd_45_13 : mt_cd 45 13 = some (.aload_n 0) := mt_cd_of (q := (13, .aload_n 0, 1)) mq_45 ci_45 (List.mem_of_getElem? (i := 8) rfl)
theorem cd_45_14 : mt_cd 45 14 = some (.getfield 9) := mt_cd_of (q := (14, .getfield 9, 3)) mq_45 ci_45 (List.mem_of_getElem? (i := 9) rfl)
theorem cd_45_17 : mt_cd 45 17 = some (.arraylength) := mt_cd_of (q := (17, .arraylength, 1)) mq_45 ci_45 (List.mem_of_getElem? (i := 10) rfl)
theorem cd_45_18 : mt_cd 45 18 = some (.if_icmp .ge 44) := mt_cd_of (q := (18, .if_icmp .ge 44, 3)) mq_45 ci_45 (List.mem_of_getElem? (i := 11) rfl)
theorem cd_45_21 : mt_cd 45 21 = some (.iload_n 2) := mt_cd_of (q := (21, .iload_n 2, 1)) mq_45 ci_45 (List.mem_of_getElem? (i := 12) rfl)
theorem cd_45_22 : mt_cd 45 22 = some (.iload 4) := mt_cd_of (q := (22, .iload 4, 2)) mq_45 ci_45 (List.mem_of_getElem? (i := 13) rfl)
theorem cd_45_24 : mt_cd 45 24 = some (.iadd) := mt_cd_of (q := (24, .iadd, 1)) mq_45 ci_45 (List.mem_of_getElem? (i := 14) rfl)
theorem cd_45_25 : mt_cd 45 25 = some (.aload_n 0) := mt_cd_of (q := (25, .aload_n 0, 1)) mq_45 ci_45 (List.mem_of_getElem? (i := 15) rfl)
theorem cd_45_26 : mt_cd 45 26 = some (.getfield 9) := mt_cd_of (q := (26, .getfield 9, 3)) mq_45 ci_45 (List.mem_of_getElem? (i := 16) rfl)
theorem cd_45_29 : mt_cd 45 29 = some (.arraylength) := mt_cd_of (q := (29, .arraylength, 1)) mq_45 ci_45 (List.mem_of_getElem? (i := 17) rfl)
theorem cd_45_30 : mt_cd 45 30 = some (.if_icmp .ge 32) := mt_cd_of (q := (30, .if_icmp .ge 32, 3)) mq_45 ci_45 (List.mem_of_getElem? (i := 18) rfl)
theorem cd_45_33 : mt_cd 45 33 = some (.aload_n 0) := mt_cd_of (q := (33, .aload_n 0, 1)) mq_45 ci_45 (List.mem_of_getElem? (i := 19) rfl)
theorem cd_45_34 : mt_cd 45 34 = some (.getfield 9) := mt_cd_of (q := (34, .getfield 9, 3)) mq_45 ci_45 (List.mem_of_getElem? (i := 20) rfl)
theorem cd_45_37 : mt_cd 45 37 = some (.iload_n 1) := mt_cd_of (q := (37, .iload_n 1, 1)) mq_45 ci_45 (List.mem_of_getElem? (i := 21) rfl)
theorem cd_45_38 : mt_cd 45 38 = some (.iload 4) := mt_cd_of (q := (38, .iload 4, 2)) mq_45 ci_45 (List.mem_of_getElem? (i := 22) rfl)
theorem cd_45_40 : mt_cd 45 40 = some (.iadd) := mt_cd_of (q := (40, .iadd, 1)) mq_45 ci_45 (List.mem_of_getElem? (i := 23) rfl)
theorem cd_45_41 : mt_cd 45 41 = some (.baload) := mt_cd_of (q := (41, .baload, 1)) mq_45 ci_45 (List.mem_of_getElem? (i := 24) rfl)
theorem cd_45_42 : mt_cd 45 42 = some (.aload_n 0) := mt_cd_of (q := (42, .aload_n 0, 1)) mq_45 ci_45 (List.mem_of_getElem? (i := 25) rfl)
theorem cd_45_43 : mt_cd 45 43 = some (.getfield 9) := mt_cd_of (q := (43, .getfield 9, 3)) mq_45 ci_45 (List.mem_of_getElem? (i := 26) rfl)
theorem cd_45_46 : mt_cd 45 46 = some (.iload_n 2) := mt_cd_of (q := (46, .iload_n 2, 1)) mq_45 ci_45 (List.mem_of_getElem? (i := 27) rfl)
theorem cd_45_47 : mt_cd 45 47 = some (.iload 4) := mt_cd_of (q := (47, .iload 4, 2)) mq_45 ci_45 (List.mem_of_getElem? (i := 28) rfl)
theorem cd_45_49 : mt_cd 45 49 = some (.iadd) := mt_cd_of (q := (49, .iadd, 1)) mq_45 ci_45 (List.mem_of_getElem? (i := 29) rfl)
theorem cd_45_50 : mt_cd 45 50 = some (.baload) := mt_cd_of (q := (50, .baload, 1)) mq_45 ci_45 (List.mem_of_getElem? (i := 30) rfl)
theorem cd_45_51 : mt_cd 45 51 = some (.if_icmp .eq 5) := mt_cd_of (q := (51, .if_icmp .eq 5, 3)) mq_45 ci_45 (List.mem_of_getElem? (i := 31) rfl)
theorem cd_45_54 : mt_cd 45 54 = some (.iconst 0) := mt_cd_of (q := (54, .iconst 0, 1)) mq_45 ci_45 (List.mem_of_getElem? (i := 32) rfl)
theorem cd_45_55 : mt_cd 45 55 = some (.ireturn) := mt_cd_of (q := (55, .ireturn, 1)) mq_45 ci_45 (List.mem_of_getElem? (i := 33) rfl)
theorem cd_45_56 : mt_cd 45 56 = some (.iinc 4 1) := mt_cd_of (q := (56, .iinc 4 1, 3)) mq_45 ci_45 (List.mem_of_getElem? (i := 34) rfl)
theorem cd_45_59 : mt_cd 45 59 = some (.goto (-56)) := mt_cd_of (q := (59, .goto (-56), 3)) mq_45 ci_45 (List.mem_of_getElem? (i := 35) rfl)
theorem cd_45_62 : mt_cd 45 62 = some (.iconst 1) := mt_cd_of (q := (62, .iconst 1, 1)) mq_45 ci_45 (List.mem_of_getElem? (i := 36) rfl)
theorem cd_45_63 : mt_cd 45 63 = some (.ireturn) := mt_cd_of (q := (63, .ireturn, 1)) mq_45 ci_45 (List.mem_of_getElem? (i := 37) rfl)
theorem b_45_0 {d : Nat} {Q : (Option Value ⊕ Nat) → mi_H → Prop} (n sl : Nat) (f : Nat → mi_C) {l1 : Nat} {l2 : Int32} {l3 : Int32} {l4 : Int32} {o5 : Option Value} (h6 : mi_W d 45 3 [some (.ref l1), some (.int l2), some (.int l3), some (.int l4), some (.int 0)] [] (n, sl, f) Q) : mi_W d 45 0 [some (.ref l1), some (.int l2), some (.int l3), some (.int l4), o5] [] (n, sl, f) Q := by
  refine w_iconst (v := 0) cd_45_0 (by decide) ?_
  refine w_istore (ls' := [some (.ref l1), some (.int l2), some (.int l3), some (.int l4), some (.int 0)]) cd_45_1 (Nat.le_of_ble_eq_true rfl) rfl ?_
  exact h6
theorem b_45_3 {d : Nat} {Q : (Option Value ⊕ Nat) → mi_H → Prop} (n sl : Nat) (f : Nat → mi_C) {l1 : Nat} {l2 : Int32} {l3 : Int32} {l4 : Int32} {l5 : Int32} (h6 : l4 ≤ l5 → mi_W d 45 62 [some (.ref l1), some (.int l2), some (.int l3), some (.int l4), some (.int l5)] [] (n, sl, f) Q) (h7 : ¬ (l4 ≤ l5) → mi_W d 45 9 [some (.ref l1), some (.int l2), some (.int l3), some (.int l4), some (.int l5)] [] (n, sl, f) Q) : mi_W d 45 3 [some (.ref l1), some (.int l2), some (.int l3), some (.int l4), some (.int l5)] [] (n, sl, f) Q := by
  refine w_iload cd_45_3 rfl ?_
  refine w_iload_n cd_45_5 rfl ?_
  exact w_if_icmpge cd_45_6 (by decide) h6 h7
theorem b_45_9 {d : Nat} {Q : (Option Value ⊕ Nat) → mi_H → Prop} (n sl : Nat) (f : Nat → mi_C) {l1 : Nat} {l2 : Int32} {l3 : Int32} {l4 : Int32} {l5 : Int32} {fs6 : List Value} {x9 : Nat} (m11 ka11 : Nat) (g11 : (Nat → Int32) ⊕ (Nat → Int64) ⊕ (Nat → UInt32) ⊕ (Nat → UInt64) ⊕ (Nat → Option Nat)) (h7 : f l1 = .inr (4, fs6)) (h8 : l1 < n) (h10 : fs6[0]? = some (.ref x9)) (h12 : f x9 = .inl (ka11, m11, g11)) (h13 : x9 < n ∧ ka11 < mt_na) (h14 : (Int32.ofNat m11) ≤ (l2 + l5) → mi_W d 45 62 [some (.ref l1), some (.int l2), some (.int l3), some (.int l4), some (.int l5)] [] (n, sl, f) Q) (h15 : ¬ ((Int32.ofNat m11) ≤ (l2 + l5)) → mi_W d 45 21 [some (.ref l1), some (.int l2), some (.int l3), some (.int l4), some (.int l5)] [] (n, sl, f) Q) : mi_W d 45 9 [some (.ref l1), some (.int l2), some (.int l3), some (.int l4), some (.int l5)] [] (n, sl, f) Q := by
  refine w_iload_n cd_45_9 rfl ?_
  refine w_iload cd_45_10 rfl ?_
  refine w_iadd cd_45_12 ?_
  refine w_aload_n cd_45_13 rfl ?_
  refine w_getfield cd_45_14 (show mt_f 4 9 = some (4, 0) by decide +kernel) h7 h8 h10 ?_
  refine w_arraylength cd_45_17 h12 h13 ?_
  exact w_if_icmpge cd_45_18 (by decide) h14 h15
theorem b_45_21 {d : Nat} {Q : (Option Value ⊕ Nat) → mi_H → Prop} (n sl : Nat) (f : Nat → mi_C) {l1 : Nat} {l2 : Int32} {l3 : Int32} {l4 : Int32} {l5 : Int32} {fs6 : List Value} {x9 : Nat} (m11 ka11 : Nat) (g11 : (Nat → Int32) ⊕ (Nat → Int64) ⊕ (Nat → UInt32) ⊕ (Nat → UInt64) ⊕ (Nat → Option Nat)) (h7 : f l1 = .inr (4, fs6)) (h8 : l1 < n) (h10 : fs6[0]? = some (.ref x9)) (h12 : f x9 = .inl (ka11, m11, g11)) (h13 : x9 < n ∧ ka11 < mt_na) (h14 : (Int32.ofNat m11) ≤ (l3 + l5) → mi_W d 45 62 [some (.ref l1), some (.int l2), some (.int l3), some (.int l4), some (.int l5)] [] (n, sl, f) Q) (h15 : ¬ ((Int32.ofNat m11) ≤ (l3 + l5)) → mi_W d 45 33 [some (.ref l1), some (.int l2), some (.int l3), some (.int l4), some (.int l5)] [] (n, sl, f) Q) : mi_W d 45 21 [some (.ref l1), some (.int l2), some (.int l3), some (.int l4), some (.int l5)] [] (n, sl, f) Q := by
  refine w_iload_n cd_45_21 rfl ?_
  refine w_iload cd_45_22 rfl ?_
  refine w_iadd cd_45_24 ?_
  refine w_aload_n cd_45_25 rfl ?_
  refine w_getfield cd_45_26 (show mt_f 4 9 = some (4, 0) by decide +kernel) h7 h8 h10 ?_
  refine w_arraylength cd_45_29 h12 h13 ?_
  exact w_if_icmpge cd_45_30 (by decide) h14 h15
theorem b_45_33 {d : Nat} {Q : (Option Value ⊕ Nat) → mi_H → Prop} (n sl : Nat) (f : Nat → mi_C) {l1 : Nat} {l2 : Int32} {l3 : Int32} {l4 : Int32} {l5 : Int32} {fs6 : List Value} {x9 : Nat} (m11 i11 : Nat) (g11 : Nat → Int32) {fs15 : List Value} {x18 : Nat} (m20 i20 : Nat) (g20 : Nat → Int32) (h7 : f l1 = .inr (4, fs6)) (h8 : l1 < n) (h10 : fs6[0]? = some (.ref x9)) (h12 : f x9 = .inl (1, m11, .inl g11)) (h13 : x9 < n) (h14 : mi_ix (l2 + l5) m11 i11) (h16 : f l1 = .inr (4, fs15)) (h17 : l1 < n) (h19 : fs15[0]? = some (.ref x18)) (h21 : f x18 = .inl (1, m20, .inl g20)) (h22 : x18 < n) (h23 : mi_ix (l3 + l5) m20 i20) (h24 : (g11 i11) = (g20 i20) → mi_W d 45 56 [some (.ref l1), some (.int l2), some (.int l3), some (.int l4), some (.int l5)] [] (n, sl, f) Q) (h25 : ¬ ((g11 i11) = (g20 i20)) → mi_W d 45 54 [some (.ref l1), some (.int l2), some (.int l3), some (.int l4), some (.int l5)] [] (n, sl, f) Q) : mi_W d 45 33 [some (.ref l1), some (.int l2), some (.int l3), some (.int l4), some (.int l5)] [] (n, sl, f) Q := by
  refine w_aload_n cd_45_33 rfl ?_
  refine w_getfield cd_45_34 (show mt_f 4 9 = some (4, 0) by decide +kernel) h7 h8 h10 ?_
  refine w_iload_n cd_45_37 rfl ?_
  refine w_iload cd_45_38 rfl ?_
  refine w_iadd cd_45_40 ?_
  refine w_baload1 cd_45_41 h12 h13 h14 ?_
  refine w_aload_n cd_45_42 rfl ?_
  refine w_getfield cd_45_43 (show mt_f 4 9 = some (4, 0) by decide +kernel) h16 h17 h19 ?_
  refine w_iload_n cd_45_46 rfl ?_
  refine w_iload cd_45_47 rfl ?_
  refine w_iadd cd_45_49 ?_
  refine w_baload1 cd_45_50 h21 h22 h23 ?_
  exact w_if_icmpeq cd_45_51 (by decide) h24 h25
theorem b_45_54 {d : Nat} {Q : (Option Value ⊕ Nat) → mi_H → Prop} (n sl : Nat) (f : Nat → mi_C) {l1 : Nat} {l2 : Int32} {l3 : Int32} {l4 : Int32} {l5 : Int32} (h6 : Q (.inl (some (.int 0))) (n, sl, f)) : mi_W d 45 54 [some (.ref l1), some (.int l2), some (.int l3), some (.int l4), some (.int l5)] [] (n, sl, f) Q := by
  refine w_iconst (v := 0) cd_45_54 (by decide) ?_
  exact w_ireturn_z cd_45_55 (by decide +kernel) (by decide) h6
theorem b_45_56 {d : Nat} {Q : (Option Value ⊕ Nat) → mi_H → Prop} (n sl : Nat) (f : Nat → mi_C) {l1 : Nat} {l2 : Int32} {l3 : Int32} {l4 : Int32} {l5 : Int32} (h6 : mi_W d 45 3 [some (.ref l1), some (.int l2), some (.int l3), some (.int l4), some (.int (l5 + 1))] [] (n, sl, f) Q) : mi_W d 45 56 [some (.ref l1), some (.int l2), some (.int l3), some (.int l4), some (.int l5)] [] (n, sl, f) Q := by
  refine w_iinc (v := 1) (ls' := [some (.ref l1), some (.int l2), some (.int l3), some (.int l4), some (.int (l5 + 1))]) cd_45_56 rfl (by decide) rfl ?_
  exact w_goto cd_45_59 (by decide) h6
theorem b_45_62 {d : Nat} {Q : (Option Value ⊕ Nat) → mi_H → Prop} (n sl : Nat) (f : Nat → mi_C) {l1 : Nat} {l2 : Int32} {l3 : Int32} {l4 : Int32} {l5 : Int32} (h6 : Q (.inl (some (.int 1))) (n, sl, f)) : mi_W d 45 62 [some (.ref l1), some (.int l2), some (.int l3), some (.int l4), some (.int l5)] [] (n, sl, f) Q := by
  refine w_iconst (v := 1) cd_45_62 (by decide) ?_
  exact w_ireturn_z cd_45_63 (by decide +kernel) (by decide) h6
/-! MarloweHost$Reader.readValue(I)I -/
set_option maxRecDepth 100000 in
theorem mq_46 : mt_q 46 = my_46 := rfl
set_option maxRecDepth 100000 in
theorem ci_46 : mt_inc 0 my_46.cd = true := by decide +kernel
theorem cd_46_0 : mt_cd 46 0 = some (.aload_n 0) := mt_cd_of (q := (0, .aload_n 0, 1)) mq_46 ci_46 (List.mem_append_left _ (show _ ∈ my_46_0 from List.mem_of_getElem? (i := 0) rfl))
theorem cd_46_1 : mt_cd 46 1 = some (.iload_n 1) := mt_cd_of (q := (1, .iload_n 1, 1)) mq_46 ci_46 (List.mem_append_left _ (show _ ∈ my_46_0 from List.mem_of_getElem? (i := 1) rfl))
theorem cd_46_2 : mt_cd 46 2 = some (.bipush 100) := mt_cd_of (q := (2, .bipush 100, 2)) mq_46 ci_46 (List.mem_append_left _ (show _ ∈ my_46_0 from List.mem_of_getElem? (i := 2) rfl))
theorem cd_46_4 : mt_cd 46 4 = some (.if_icmp .gt 7) := mt_cd_of (q := (4, .if_icmp .gt 7, 3)) mq_46 ci_46 (List.mem_append_left _ (show _ ∈ my_46_0 from List.mem_of_getElem? (i := 3) rfl))
theorem cd_46_7 : mt_cd 46 7 = some (.iconst 1) := mt_cd_of (q := (7, .iconst 1, 1)) mq_46 ci_46 (List.mem_append_left _ (show _ ∈ my_46_0 from List.mem_of_getElem? (i := 4) rfl))
theorem cd_46_8 : mt_cd 46 8 = some (.goto 4) := mt_cd_of (q := (8, .goto 4, 3)) mq_46 ci_46 (List.mem_append_left _ (show _ ∈ my_46_0 from List.mem_of_getElem? (i := 5) rfl))
theorem cd_46_11 : mt_cd 46 11 = some (.iconst 0) := mt_cd_of (q := (11, .iconst 0, 1)) mq_46 ci_46 (List.mem_append_left _ (show _ ∈ my_46_0 from List.mem_of_getElem? (i := 6) rfl))
theorem cd_46_12 : mt_cd 46 12 = some (.invokevirtual 70) := mt_cd_of (q := (12, .invokevirtual 70, 3)) mq_46 ci_46 (List.mem_append_left _ (show _ ∈ my_46_0 from List.mem_of_getElem? (i := 7) rfl))
theorem cd_46_15 : mt_cd 46 15 = some (.aload_n 0) := mt_cd_of (q := (15, .aload_n 0, 1)) mq_46 ci_46 (List.mem_append_left _ (show _ ∈ my_46_0 from List.mem_of_getElem? (i := 8) rfl))
theorem cd_46_16 : mt_cd 46 16 = some (.getfield 15) := mt_cd_of (q := (16, .getfield 15, 3)) mq_46 ci_46 (List.mem_append_left _ (show _ ∈ my_46_0 from List.mem_of_getElem? (i := 9) rfl))
theorem cd_46_19 : mt_cd 46 19 = some (.getfield 67) := mt_cd_of (q := (19, .getfield 67, 3)) mq_46 ci_46 (List.mem_append_left _ (show _ ∈ my_46_0 from List.mem_of_getElem? (i := 10) rfl))
theorem cd_46_22 : mt_cd 46 22 = some (.bipush 24) := mt_cd_of (q := (22, .bipush 24, 2)) mq_46 ci_46 (List.mem_append_left _ (show _ ∈ my_46_0 from List.mem_of_getElem? (i := 11) rfl))
theorem cd_46_24 : mt_cd 46 24 = some (.if_icmp .ne 26) := mt_cd_of (q := (24, .if_icmp .ne 26, 3)) mq_46 ci_46 (List.mem_append_left _ (show _ ∈ my_46_0 from List.mem_of_getElem? (i := 12) rfl))
theorem cd_46_27 : mt_cd 46 27 = some (.aload_n 0) := mt_cd_of (q := (27, .aload_n 0, 1)) mq_46 ci_46 (List.mem_append_left _ (show _ ∈ my_46_0 from List.mem_of_getElem? (i := 13) rfl))
theorem cd_46_28 : mt_cd 46 28 = some (.getfield 15) := mt_cd_of (q := (28, .getfield 15, 3)) mq_46 ci_46 (List.mem_append_left _ (show _ ∈ my_46_0 from List.mem_of_getElem? (i := 14) rfl))
theorem cd_46_31 : mt_cd 46 31 = some (.invokevirtual 84) := mt_cd_of (q := (31, .invokevirtual 84, 3)) mq_46 ci_46 (List.mem_append_left _ (show _ ∈ my_46_0 from List.mem_of_getElem? (i := 15) rfl))
theorem cd_46_34 : mt_cd 46 34 = some (.aload_n 0) := mt_cd_of (q := (34, .aload_n 0, 1)) mq_46 ci_46 (List.mem_append_left _ (show _ ∈ my_46_0 from List.mem_of_getElem? (i := 16) rfl))
theorem cd_46_35 : mt_cd 46 35 = some (.iload_n 1) := mt_cd_of (q := (35, .iload_n 1, 1)) mq_46 ci_46 (List.mem_append_left _ (show _ ∈ my_46_0 from List.mem_of_getElem? (i := 17) rfl))
theorem cd_46_36 : mt_cd 46 36 = some (.iconst 1) := mt_cd_of (q := (36, .iconst 1, 1)) mq_46 ci_46 (List.mem_append_left _ (show _ ∈ my_46_0 from List.mem_of_getElem? (i := 18) rfl))
theorem cd_46_37 : mt_cd 46 37 = some (.iadd) := mt_cd_of (q := (37, .iadd, 1)) mq_46 ci_46 (List.mem_append_left _ (show _ ∈ my_46_0 from List.mem_of_getElem? (i := 19) rfl))
theorem cd_46_38 : mt_cd 46 38 = some (.invokevirtual 113) := mt_cd_of (q := (38, .invokevirtual 113, 3)) mq_46 ci_46 (List.mem_append_left _ (show _ ∈ my_46_0 from List.mem_of_getElem? (i := 20) rfl))
theorem cd_46_41 : mt_cd 46 41 = some (.istore_n 2) := mt_cd_of (q := (41, .istore_n 2, 1)) mq_46 ci_46 (List.mem_append_left _ (show _ ∈ my_46_0 from List.mem_of_getElem? (i := 21) rfl))
theorem cd_46_42 : mt_cd 46 42 = some (.aload_n 0) := mt_cd_of (q := (42, .aload_n 0, 1)) mq_46 ci_46 (List.mem_append_left _ (show _ ∈ my_46_0 from List.mem_of_getElem? (i := 22) rfl))
theorem cd_46_43 : mt_cd 46 43 = some (.bipush 25) := mt_cd_of (q := (43, .bipush 25, 2)) mq_46 ci_46 (List.mem_append_left _ (show _ ∈ my_46_0 from List.mem_of_getElem? (i := 23) rfl))
theorem cd_46_45 : mt_cd 46 45 = some (.invokevirtual 99) := mt_cd_of (q := (45, .invokevirtual 99, 3)) mq_46 ci_46 (List.mem_append_left _ (show _ ∈ my_46_0 from List.mem_of_getElem? (i := 24) rfl))
theorem cd_46_48 : mt_cd 46 48 = some (.iload_n 2) := mt_cd_of (q := (48, .iload_n 2, 1)) mq_46 ci_46 (List.mem_append_left _ (show _ ∈ my_46_0 from List.mem_of_getElem? (i := 25) rfl))
theorem cd_46_49 : mt_cd 46 49 = some (.ireturn) := mt_cd_of (q := (49, .ireturn, 1)) mq_46 ci_46 (List.mem_append_left _ (show _ ∈ my_46_0 from List.mem_of_getElem? (i := 26) rfl))
theorem cd_46_50 : mt_cd 46 50 = some (.aload_n 0) := mt_cd_of (q := (50, .aload_n 0, 1)) mq_46 ci_46 (List.mem_append_left _ (show _ ∈ my_46_0 from List.mem_of_getElem? (i := 27) rfl))
theorem cd_46_51 : mt_cd 46 51 = some (.getfield 15) := mt_cd_of (q := (51, .getfield 15, 3)) mq_46 ci_46 (List.mem_append_left _ (show _ ∈ my_46_0 from List.mem_of_getElem? (i := 28) rfl))
theorem cd_46_54 : mt_cd 46 54 = some (.getfield 67) := mt_cd_of (q := (54, .getfield 67, 3)) mq_46 ci_46 (List.mem_append_left _ (show _ ∈ my_46_0 from List.mem_of_getElem? (i := 29) rfl))
theorem cd_46_57 : mt_cd 46 57 = some (.istore_n 2) := mt_cd_of (q := (57, .istore_n 2, 1)) mq_46 ci_46 (List.mem_append_left _ (show _ ∈ my_46_0 from List.mem_of_getElem? (i := 30) rfl))
theorem cd_46_58 : mt_cd 46 58 = some (.iload_n 2) := mt_cd_of (q := (58, .iload_n 2, 1)) mq_46 ci_46 (List.mem_append_left _ (show _ ∈ my_46_0 from List.mem_of_getElem? (i := 31) rfl))
theorem cd_46_59 : mt_cd 46 59 = some (.bipush 28) := mt_cd_of (q := (59, .bipush 28, 2)) mq_46 ci_46 (List.mem_append_left _ (show _ ∈ my_46_0 from List.mem_of_getElem? (i := 32) rfl))
theorem cd_46_61 : mt_cd 46 61 = some (.if_icmp .lt 13) := mt_cd_of (q := (61, .if_icmp .lt 13, 3)) mq_46 ci_46 (List.mem_append_left _ (show _ ∈ my_46_0 from List.mem_of_getElem? (i := 33) rfl))
theorem cd_46_64 : mt_cd 46 64 = some (.iload_n 2) := mt_cd_of (q := (64, .iload_n 2, 1)) mq_46 ci_46 (List.mem_append_left _ (show _ ∈ my_46_0 from List.mem_of_getElem? (i := 34) rfl))
theorem cd_46_65 : mt_cd 46 65 = some (.bipush 31) := mt_cd_of (q := (65, .bipush 31, 2)) mq_46 ci_46 (List.mem_append_left _ (show _ ∈ my_46_0 from List.mem_of_getElem? (i := 35) rfl))
theorem cd_46_67 : mt_cd 46 67 = some (.if_icmp .gt 7) := mt_cd_of (q := (67, .if_icmp .gt 7, 3)) mq_46 ci_46 (List.mem_append_left _ (show _ ∈ my_46_0 from List.mem_of_getElem? (i := 36) rfl))
theorem cd_46_70 : mt_cd 46 70 = some (.iconst 1) := mt_cd_of (q := (70, .iconst 1, 1)) mq_46 ci_46 (List.mem_append_left _ (show _ ∈ my_46_0 from List.mem_of_getElem? (i := 37) rfl))
theorem cd_46_71 : mt_cd 46 71 = some (.goto 4) := mt_cd_of (q := (71, .goto 4, 3)) mq_46 ci_46 (List.mem_append_left _ (show _ ∈ my_46_0 from List.mem_of_getElem? (i := 38) rfl))
theorem cd_46_74 : mt_cd 46 74 = some (.iconst 0) := mt_cd_of (q := (74, .iconst 0, 1)) mq_46 ci_46 (List.mem_append_left _ (show _ ∈ my_46_0 from List.mem_of_getElem? (i := 39) rfl))
theorem cd_46_75 : mt_cd 46 75 = some (.istore_n 3) := mt_cd_of (q := (75, .istore_n 3, 1)) mq_46 ci_46 (List.mem_append_left _ (show _ ∈ my_46_0 from List.mem_of_getElem? (i := 40) rfl))
theorem cd_46_76 : mt_cd 46 76 = some (.aload_n 0) := mt_cd_of (q := (76, .aload_n 0, 1)) mq_46 ci_46 (List.mem_append_left _ (show _ ∈ my_46_0 from List.mem_of_getElem? (i := 41) rfl))
theorem cd_46_77 : mt_cd 46 77 = some (.iload_n 2) := mt_cd_of (q := (77, .iload_n 2, 1)) mq_46 ci_46 (List.mem_append_left _ (show _ ∈ my_46_0 from List.mem_of_getElem? (i := 42) rfl))
theorem cd_46_78 : mt_cd 46 78 = some (.bipush 37) := mt_cd_of (q := (78, .bipush 37, 2)) mq_46 ci_46 (List.mem_append_left _ (show _ ∈ my_46_0 from List.mem_of_getElem? (i := 43) rfl))
theorem cd_46_80 : mt_cd 46 80 = some (.if_icmp .eq 19) := mt_cd_of (q := (80, .if_icmp .eq 19, 3)) mq_46 ci_46 (List.mem_append_left _ (show _ ∈ my_46_0 from List.mem_of_getElem? (i := 44) rfl))
theorem cd_46_83 : mt_cd 46 83 = some (.iload_n 3) := mt_cd_of (q := (83, .iload_n 3, 1)) mq_46 ci_46 (List.mem_append_left _ (show _ ∈ my_46_0 from List.mem_of_getElem? (i := 45) rfl))
theorem cd_46_84 : mt_cd 46 84 = some (.ifCond .ne 15) := mt_cd_of (q := (84, .ifCond .ne 15, 3)) mq_46 ci_46 (List.mem_append_left _ (show _ ∈ my_46_0 from List.mem_of_getElem? (i := 46) rfl))
theorem cd_46_87 : mt_cd 46 87 = some (.iload_n 2) := mt_cd_of (q := (87, .iload_n 2, 1)) mq_46 ci_46 (List.mem_append_left _ (show _ ∈ my_46_0 from List.mem_of_getElem? (i := 47) rfl))
theorem cd_46_88 : mt_cd 46 88 = some (.bipush 11) := mt_cd_of (q := (88, .bipush 11, 2)) mq_46 ci_46 (List.mem_append_left _ (show _ ∈ my_46_0 from List.mem_of_getElem? (i := 48) rfl))
theorem cd_46_90 : mt_cd 46 90 = some (.if_icmp .lt 13) := mt_cd_of (q := (90, .if_icmp .lt 13, 3)) mq_46 ci_46 (List.mem_append_left _ (show _ ∈ my_46_0 from List.mem_of_getElem? (i := 49) rfl))
theorem cd_46_93 : mt_cd 46 93 = some (.iload_n 2) := mt_cd_of (q := (93, .iload_n 2, 1)) mq_46 ci_46 (List.mem_append_left _ (show _ ∈ my_46_0 from List.mem_of_getElem? (i := 50) rfl))
theorem cd_46_94 : mt_cd 46 94 = some (.bipush 17) := mt_cd_of (q := (94, .bipush 17, 2)) mq_46 ci_46 (List.mem_append_left _ (show _ ∈ my_46_0 from List.mem_of_getElem? (i := 51) rfl))
theorem cd_46_96 : mt_cd 46 96 = some (.if_icmp .gt 7) := mt_cd_of (q := (96, .if_icmp .gt 7, 3)) mq_46 ci_46 (List.mem_append_left _ (show _ ∈ my_46_0 from List.mem_of_getElem? (i := 52) rfl))
theorem cd_46_99 : mt_cd 46 99 = some (.iconst 1) := mt_cd_of (q := (99, .iconst 1, 1)) mq_46 ci_46 (List.mem_append_left _ (show _ ∈ my_46_0 from List.mem_of_getElem? (i := 53) rfl))
theorem cd_46_100 : mt_cd 46 100 = some (.goto 4) := mt_cd_of (q := (100, .goto 4, 3)) mq_46 ci_46 (List.mem_append_left _ (show _ ∈ my_46_0 from List.mem_of_getElem? (i := 54) rfl))
theorem cd_46_103 : mt_cd 46 103 = some (.iconst 0) := mt_cd_of (q := (103, .iconst 0, 1)) mq_46 ci_46 (List.mem_append_left _ (show _ ∈ my_46_0 from List.mem_of_getElem? (i := 55) rfl))
theorem cd_46_104 : mt_cd 46 104 = some (.invokevirtual 70) := mt_cd_of (q := (104, .invokevirtual 70, 3)) mq_46 ci_46 (List.mem_append_left _ (show _ ∈ my_46_0 from List.mem_of_getElem? (i := 56) rfl))
theorem cd_46_107 : mt_cd 46 107 = some (.aload_n 0) := mt_cd_of (q := (107, .aload_n 0, 1)) mq_46 ci_46 (List.mem_append_left _ (show _ ∈ my_46_0 from List.mem_of_getElem? (i := 57) rfl))
theorem cd_46_108 : mt_cd 46 108 = some (.invokevirtual 102) := mt_cd_of (q := (108, .invokevirtual 102, 3)) mq_46 ci_46 (List.mem_append_left _ (show _ ∈ my_46_0 from List.mem_of_getElem? (i := 58) rfl))
theorem cd_46_111 : mt_cd 46 111 = some (.istore 4) := mt_cd_of (q := (111, .istore 4, 2)) mq_46 ci_46 (List.mem_append_left _ (show _ ∈ my_46_0 from List.mem_of_getElem? (i := 59) rfl))
theorem cd_46_113 : mt_cd 46 113 = some (.iload_n 2) := mt_cd_of (q := (113, .iload_n 2, 1)) mq_46 ci_46 (List.mem_append_right _ (List.mem_append_left _ (show _ ∈ my_46_1 from List.mem_of_getElem? (i := 0) rfl)))
theorem cd_46_114 : mt_cd 46 114 = some (.bipush 11) := mt_cd_of (q := (114, .bipush 11, 2)) mq_46 ci_46 (List.mem_append_right _ (List.mem_append_left _ (show _ ∈ my_46_1 from List.mem_of_getElem? (i := 1) rfl)))
theorem cd_46_116 : mt_cd 46 116 = some (.if_icmp .ne 42) := mt_cd_of (q := (116, .if_icmp .ne 42, 3)) mq_46 ci_46 (List.mem_append_right _ (List.mem_append_left _ (show _ ∈ my_46_1 from List.mem_of_getElem? (i := 2) rfl)))
theorem cd_46_119 : mt_cd 46 119 = some (.aload_n 0) := mt_cd_of (q := (119, .aload_n 0, 1)) mq_46 ci_46 (List.mem_append_right _ (List.mem_append_left _ (show _ ∈ my_46_1 from List.mem_of_getElem? (i := 3) rfl)))
theorem cd_46_120 : mt_cd 46 120 = some (.getfield 19) := mt_cd_of (q := (120, .getfield 19, 3)) mq_46 ci_46 (List.mem_append_right _ (List.mem_append_left _ (show _ ∈ my_46_1 from List.mem_of_getElem? (i := 4) rfl)))
theorem cd_46_123 : mt_cd 46 123 = some (.getfield 128) := mt_cd_of (q := (123, .getfield 128, 3)) mq_46 ci_46 (List.mem_append_right _ (List.mem_append_left _ (show _ ∈ my_46_1 from List.mem_of_getElem? (i := 5) rfl)))
theorem cd_46_126 : mt_cd 46 126 = some (.iload 4) := mt_cd_of (q := (126, .iload 4, 2)) mq_46 ci_46 (List.mem_append_right _ (List.mem_append_left _ (show _ ∈ my_46_1 from List.mem_of_getElem? (i := 6) rfl)))
theorem cd_46_128 : mt_cd 46 128 = some (.aload_n 0) := mt_cd_of (q := (128, .aload_n 0, 1)) mq_46 ci_46 (List.mem_append_right _ (List.mem_append_left _ (show _ ∈ my_46_1 from List.mem_of_getElem? (i := 7) rfl)))
theorem cd_46_129 : mt_cd 46 129 = some (.aload_n 0) := mt_cd_of (q := (129, .aload_n 0, 1)) mq_46 ci_46 (List.mem_append_right _ (List.mem_append_left _ (show _ ∈ my_46_1 from List.mem_of_getElem? (i := 8) rfl)))
theorem cd_46_130 : mt_cd 46 130 = some (.getfield 34) := mt_cd_of (q := (130, .getfield 34, 3)) mq_46 ci_46 (List.mem_append_right _ (List.mem_append_left _ (show _ ∈ my_46_1 from List.mem_of_getElem? (i := 9) rfl)))
theorem cd_46_133 : mt_cd 46 133 = some (.invokevirtual 131) := mt_cd_of (q := (133, .invokevirtual 131, 3)) mq_46 ci_46 (List.mem_append_right _ (List.mem_append_left _ (show _ ∈ my_46_1 from List.mem_of_getElem? (i := 10) rfl)))
theorem cd_46_136 : mt_cd 46 136 = some (.iastore) := mt_cd_of (q := (136, .iastore, 1)) mq_46 ci_46 (List.mem_append_right _ (List.mem_append_left _ (show _ ∈ my_46_1 from List.mem_of_getElem? (i := 11) rfl)))
theorem cd_46_137 : mt_cd 46 137 = some (.aload_n 0) := mt_cd_of (q := (137, .aload_n 0, 1)) mq_46 ci_46 (List.mem_append_right _ (List.mem_append_left _ (show _ ∈ my_46_1 from List.mem_of_getElem? (i := 12) rfl)))
theorem cd_46_138 : mt_cd 46 138 = some (.getfield 19) := mt_cd_of (q := (138, .getfield 19, 3)) mq_46 ci_46 (List.mem_append_right _ (List.mem_append_left _ (show _ ∈ my_46_1 from List.mem_of_getElem? (i := 13) rfl)))
theorem cd_46_141 : mt_cd 46 141 = some (.getfield 151) := mt_cd_of (q := (141, .getfield 151, 3)) mq_46 ci_46 (List.mem_append_right _ (List.mem_append_left _ (show _ ∈ my_46_1 from List.mem_of_getElem? (i := 14) rfl)))
theorem cd_46_144 : mt_cd 46 144 = some (.iload 4) := mt_cd_of (q := (144, .iload 4, 2)) mq_46 ci_46 (List.mem_append_right _ (List.mem_append_left _ (show _ ∈ my_46_1 from List.mem_of_getElem? (i := 15) rfl)))
theorem cd_46_146 : mt_cd 46 146 = some (.aload_n 0) := mt_cd_of (q := (146, .aload_n 0, 1)) mq_46 ci_46 (List.mem_append_right _ (List.mem_append_left _ (show _ ∈ my_46_1 from List.mem_of_getElem? (i := 16) rfl)))
theorem cd_46_147 : mt_cd 46 147 = some (.aload_n 0) := mt_cd_of (q := (147, .aload_n 0, 1)) mq_46 ci_46 (List.mem_append_right _ (List.mem_append_left _ (show _ ∈ my_46_1 from List.mem_of_getElem? (i := 17) rfl)))
theorem cd_46_148 : mt_cd 46 148 = some (.getfield 38) := mt_cd_of (q := (148, .getfield 38, 3)) mq_46 ci_46 (List.mem_append_right _ (List.mem_append_left _ (show _ ∈ my_46_1 from List.mem_of_getElem? (i := 18) rfl)))
theorem cd_46_151 : mt_cd 46 151 = some (.invokevirtual 131) := mt_cd_of (q := (151, .invokevirtual 131, 3)) mq_46 ci_46 (List.mem_append_right _ (List.mem_append_left _ (show _ ∈ my_46_1 from List.mem_of_getElem? (i := 19) rfl)))
theorem cd_46_154 : mt_cd 46 154 = some (.iastore) := mt_cd_of (q := (154, .iastore, 1)) mq_46 ci_46 (List.mem_append_right _ (List.mem_append_left _ (show _ ∈ my_46_1 from List.mem_of_getElem? (i := 20) rfl)))
theorem cd_46_155 : mt_cd 46 155 = some (.goto 123) := mt_cd_of (q := (155, .goto 123, 3)) mq_46 ci_46 (List.mem_append_right _ (List.mem_append_left _ (show _ ∈ my_46_1 from List.mem_of_getElem? (i := 21) rfl)))
theorem cd_46_158 : mt_cd 46 158 = some (.iload_n 2) := mt_cd_of (q := (158, .iload_n 2, 1)) mq_46 ci_46 (List.mem_append_right _ (List.mem_append_left _ (show _ ∈ my_46_1 from List.mem_of_getElem? (i := 22) rfl)))
theorem cd_46_159 : mt_cd 46 159 = some (.bipush 13) := mt_cd_of (q := (159, .bipush 13, 2)) mq_46 ci_46 (List.mem_append_right _ (List.mem_append_left _ (show _ ∈ my_46_1 from List.mem_of_getElem? (i := 23) rfl)))
theorem cd_46_161 : mt_cd 46 161 = some (.if_icmp .ne 20) := mt_cd_of (q := (161, .if_icmp .ne 20, 3)) mq_46 ci_46 (List.mem_append_right _ (List.mem_append_left _ (show _ ∈ my_46_1 from List.mem_of_getElem? (i := 24) rfl)))
theorem cd_46_164 : mt_cd 46 164 = some (.aload_n 0) := mt_cd_of (q := (164, .aload_n 0, 1)) mq_46 ci_46 (List.mem_append_right _ (List.mem_append_left _ (show _ ∈ my_46_1 from List.mem_of_getElem? (i := 25) rfl)))
theorem cd_46_165 : mt_cd 46 165 = some (.getfield 19) := mt_cd_of (q := (165, .getfield 19, 3)) mq_46 ci_46 (List.mem_append_right _ (List.mem_append_left _ (show _ ∈ my_46_1 from List.mem_of_getElem? (i := 26) rfl)))
theorem cd_46_168 : mt_cd 46 168 = some (.getfield 128) := mt_cd_of (q := (168, .getfield 128, 3)) mq_46 ci_46 (List.mem_append_right _ (List.mem_append_left _ (show _ ∈ my_46_1 from List.mem_of_getElem? (i := 27) rfl)))
theorem cd_46_171 : mt_cd 46 171 = some (.iload 4) := mt_cd_of (q := (171, .iload 4, 2)) mq_46 ci_46 (List.mem_append_right _ (List.mem_append_left _ (show _ ∈ my_46_1 from List.mem_of_getElem? (i := 28) rfl)))
theorem cd_46_173 : mt_cd 46 173 = some (.aload_n 0) := mt_cd_of (q := (173, .aload_n 0, 1)) mq_46 ci_46 (List.mem_append_right _ (List.mem_append_left _ (show _ ∈ my_46_1 from List.mem_of_getElem? (i := 29) rfl)))
theorem cd_46_174 : mt_cd 46 174 = some (.invokevirtual 157) := mt_cd_of (q := (174, .invokevirtual 157, 3)) mq_46 ci_46 (List.mem_append_right _ (List.mem_append_left _ (show _ ∈ my_46_1 from List.mem_of_getElem? (i := 30) rfl)))
theorem cd_46_177 : mt_cd 46 177 = some (.iastore) := mt_cd_of (q := (177, .iastore, 1)) mq_46 ci_46 (List.mem_append_right _ (List.mem_append_left _ (show _ ∈ my_46_1 from List.mem_of_getElem? (i := 31) rfl)))
theorem cd_46_178 : mt_cd 46 178 = some (.goto 100) := mt_cd_of (q := (178, .goto 100, 3)) mq_46 ci_46 (List.mem_append_right _ (List.mem_append_left _ (show _ ∈ my_46_1 from List.mem_of_getElem? (i := 32) rfl)))
theorem cd_46_181 : mt_cd 46 181 = some (.iload_n 2) := mt_cd_of (q := (181, .iload_n 2, 1)) mq_46 ci_46 (List.mem_append_right _ (List.mem_append_left _ (show _ ∈ my_46_1 from List.mem_of_getElem? (i := 33) rfl)))
theorem cd_46_182 : mt_cd 46 182 = some (.bipush 14) := mt_cd_of (q := (182, .bipush 14, 2)) mq_46 ci_46 (List.mem_append_right _ (List.mem_append_left _ (show _ ∈ my_46_1 from List.mem_of_getElem? (i := 34) rfl)))
theorem cd_46_184 : mt_cd 46 184 = some (.if_icmp .ne 24) := mt_cd_of (q := (184, .if_icmp .ne 24, 3)) mq_46 ci_46 (List.mem_append_right _ (List.mem_append_left _ (show _ ∈ my_46_1 from List.mem_of_getElem? (i := 35) rfl)))
theorem cd_46_187 : mt_cd 46 187 = some (.aload_n 0) := mt_cd_of (q := (187, .aload_n 0, 1)) mq_46 ci_46 (List.mem_append_right _ (List.mem_append_left _ (show _ ∈ my_46_1 from List.mem_of_getElem? (i := 36) rfl)))
theorem cd_46_188 : mt_cd 46 188 = some (.getfield 19) := mt_cd_of (q := (188, .getfield 19, 3)) mq_46 ci_46 (List.mem_append_right _ (List.mem_append_left _ (show _ ∈ my_46_1 from List.mem_of_getElem? (i := 37) rfl)))
theorem cd_46_191 : mt_cd 46 191 = some (.getfield 128) := mt_cd_of (q := (191, .getfield 128, 3)) mq_46 ci_46 (List.mem_append_right _ (List.mem_append_left _ (show _ ∈ my_46_1 from List.mem_of_getElem? (i := 38) rfl)))
theorem cd_46_194 : mt_cd 46 194 = some (.iload 4) := mt_cd_of (q := (194, .iload 4, 2)) mq_46 ci_46 (List.mem_append_right _ (List.mem_append_left _ (show _ ∈ my_46_1 from List.mem_of_getElem? (i := 39) rfl)))
theorem cd_46_196 : mt_cd 46 196 = some (.aload_n 0) := mt_cd_of (q := (196, .aload_n 0, 1)) mq_46 ci_46 (List.mem_append_right _ (List.mem_append_left _ (show _ ∈ my_46_1 from List.mem_of_getElem? (i := 40) rfl)))
theorem cd_46_197 : mt_cd 46 197 = some (.aload_n 0) := mt_cd_of (q := (197, .aload_n 0, 1)) mq_46 ci_46 (List.mem_append_right _ (List.mem_append_left _ (show _ ∈ my_46_1 from List.mem_of_getElem? (i := 41) rfl)))
theorem cd_46_198 : mt_cd 46 198 = some (.getfield 44) := mt_cd_of (q := (198, .getfield 44, 3)) mq_46 ci_46 (List.mem_append_right _ (List.mem_append_left _ (show _ ∈ my_46_1 from List.mem_of_getElem? (i := 42) rfl)))
theorem cd_46_201 : mt_cd 46 201 = some (.invokevirtual 131) := mt_cd_of (q := (201, .invokevirtual 131, 3)) mq_46 ci_46 (List.mem_append_right _ (List.mem_append_left _ (show _ ∈ my_46_1 from List.mem_of_getElem? (i := 43) rfl)))
theorem cd_46_204 : mt_cd 46 204 = some (.iastore) := mt_cd_of (q := (204, .iastore, 1)) mq_46 ci_46 (List.mem_append_right _ (List.mem_append_left _ (show _ ∈ my_46_1 from List.mem_of_getElem? (i := 44) rfl)))
theorem cd_46_205 : mt_cd 46 205 = some (.goto 73) := mt_cd_of (q := (205, .goto 73, 3)) mq_46 ci_46 (List.mem_append_right _ (List.mem_append_left _ (show _ ∈ my_46_1 from List.mem_of_getElem? (i := 45) rfl)))
theorem cd_46_208 : mt_cd 46 208 = some (.iload_n 2) := mt_cd_of (q := (208, .iload_n 2, 1)) mq_46 ci_46 (List.mem_append_right _ (List.mem_append_left _ (show _ ∈ my_46_1 from List.mem_of_getElem? (i := 46) rfl)))
theorem cd_46_209 : mt_cd 46 209 = some (.bipush 12) := mt_cd_of (q := (209, .bipush 12, 2)) mq_46 ci_46 (List.mem_append_right _ (List.mem_append_left _ (show _ ∈ my_46_1 from List.mem_of_getElem? (i := 47) rfl)))
theorem cd_46_211 : mt_cd 46 211 = some (.if_icmp .eq 7) := mt_cd_of (q := (211, .if_icmp .eq 7, 3)) mq_46 ci_46 (List.mem_append_right _ (List.mem_append_left _ (show _ ∈ my_46_1 from List.mem_of_getElem? (i := 48) rfl)))
theorem cd_46_214 : mt_cd 46 214 = some (.iload_n 3) := mt_cd_of (q := (214, .iload_n 3, 1)) mq_46 ci_46 (List.mem_append_right _ (List.mem_append_left _ (show _ ∈ my_46_1 from List.mem_of_getElem? (i := 49) rfl)))
theorem cd_46_215 : mt_cd 46 215 = some (.ifCond .eq 23) := mt_cd_of (q := (215, .ifCond .eq 23, 3)) mq_46 ci_46 (List.mem_append_right _ (List.mem_append_left _ (show _ ∈ my_46_1 from List.mem_of_getElem? (i := 50) rfl)))
theorem cd_46_218 : mt_cd 46 218 = some (.aload_n 0) := mt_cd_of (q := (218, .aload_n 0, 1)) mq_46 ci_46 (List.mem_append_right _ (List.mem_append_left _ (show _ ∈ my_46_1 from List.mem_of_getElem? (i := 51) rfl)))
theorem cd_46_219 : mt_cd 46 219 = some (.getfield 19) := mt_cd_of (q := (219, .getfield 19, 3)) mq_46 ci_46 (List.mem_append_right _ (List.mem_append_left _ (show _ ∈ my_46_1 from List.mem_of_getElem? (i := 52) rfl)))
theorem cd_46_222 : mt_cd 46 222 = some (.getfield 109) := mt_cd_of (q := (222, .getfield 109, 3)) mq_46 ci_46 (List.mem_append_right _ (List.mem_append_left _ (show _ ∈ my_46_1 from List.mem_of_getElem? (i := 53) rfl)))
theorem cd_46_225 : mt_cd 46 225 = some (.iload 4) := mt_cd_of (q := (225, .iload 4, 2)) mq_46 ci_46 (List.mem_append_right _ (List.mem_append_left _ (show _ ∈ my_46_1 from List.mem_of_getElem? (i := 54) rfl)))
theorem cd_46_227 : mt_cd 46 227 = some (.aload_n 0) := mt_cd_of (q := (227, .aload_n 0, 1)) mq_46 ci_46 (List.mem_append_right _ (List.mem_append_left _ (show _ ∈ my_46_1 from List.mem_of_getElem? (i := 55) rfl)))
theorem cd_46_228 : mt_cd 46 228 = some (.iload_n 1) := mt_cd_of (q := (228, .iload_n 1, 1)) mq_46 ci_46 (List.mem_append_right _ (List.mem_append_left _ (show _ ∈ my_46_1 from List.mem_of_getElem? (i := 56) rfl)))
theorem cd_46_229 : mt_cd 46 229 = some (.iconst 1) := mt_cd_of (q := (229, .iconst 1, 1)) mq_46 ci_46 (List.mem_append_right _ (List.mem_append_left _ (show _ ∈ my_46_1 from List.mem_of_getElem? (i := 57) rfl)))
theorem cd_46_230 : mt_cd 46 230 = some (.iadd) := mt_cd_of (q := (230, .iadd, 1)) mq_46 ci_46 (List.mem_append_right _ (List.mem_append_left _ (show _ ∈ my_46_1 from List.mem_of_getElem? (i := 58) rfl)))
theorem cd_46_231 : mt_cd 46 231 = some (.invokevirtual 113) := mt_cd_of (q := (231, .invokevirtual 113, 3)) mq_46 ci_46 (List.mem_append_right _ (List.mem_append_left _ (show _ ∈ my_46_1 from List.mem_of_getElem? (i := 59) rfl)))
theorem cd_46_234 : mt_cd 46 234 = some (.iastore) := mt_cd_of (q := (234, .iastore, 1)) mq_46 ci_46 (List.mem_append_right _ (List.mem_append_right _ ((show _ ∈ my_46_2 from List.mem_of_getElem? (i := 0) rfl))))
theorem cd_46_235 : mt_cd 46 235 = some (.goto 43) := mt_cd_of (q := (235, .goto 43, 3)) mq_46 ci_46 (List.mem_append_right _ (List.mem_append_right _ ((show _ ∈ my_46_2 from List.mem_of_getElem? (i := 1) rfl))))
theorem cd_46_238 : mt_cd 46 238 = some (.iload_n 2) := mt_cd_of (q := (238, .iload_n 2, 1)) mq_46 ci_46 (List.mem_append_right _ (List.mem_append_right _ ((show _ ∈ my_46_2 from List.mem_of_getElem? (i := 2) rfl))))
theorem cd_46_239 : mt_cd 46 239 = some (.bipush 17) := mt_cd_of (q := (239, .bipush 17, 2)) mq_46 ci_46 (List.mem_append_right _ (List.mem_append_right _ ((show _ ∈ my_46_2 from List.mem_of_getElem? (i := 3) rfl))))
theorem cd_46_241 : mt_cd 46 241 = some (.if_icmp .ne 37) := mt_cd_of (q := (241, .if_icmp .ne 37, 3)) mq_46 ci_46 (List.mem_append_right _ (List.mem_append_right _ ((show _ ∈ my_46_2 from List.mem_of_getElem? (i := 4) rfl))))
theorem cd_46_244 : mt_cd 46 244 = some (.aload_n 0) := mt_cd_of (q := (244, .aload_n 0, 1)) mq_46 ci_46 (List.mem_append_right _ (List.mem_append_right _ ((show _ ∈ my_46_2 from List.mem_of_getElem? (i := 5) rfl))))
theorem cd_46_245 : mt_cd 46 245 = some (.getfield 19) := mt_cd_of (q := (245, .getfield 19, 3)) mq_46 ci_46 (List.mem_append_right _ (List.mem_append_right _ ((show _ ∈ my_46_2 from List.mem_of_getElem? (i := 6) rfl))))
theorem cd_46_248 : mt_cd 46 248 = some (.getfield 109) := mt_cd_of (q := (248, .getfield 109, 3)) mq_46 ci_46 (List.mem_append_right _ (List.mem_append_right _ ((show _ ∈ my_46_2 from List.mem_of_getElem? (i := 7) rfl))))
theorem cd_46_251 : mt_cd 46 251 = some (.iload 4) := mt_cd_of (q := (251, .iload 4, 2)) mq_46 ci_46 (List.mem_append_right _ (List.mem_append_right _ ((show _ ∈ my_46_2 from List.mem_of_getElem? (i := 8) rfl))))
theorem cd_46_253 : mt_cd 46 253 = some (.aload_n 0) := mt_cd_of (q := (253, .aload_n 0, 1)) mq_46 ci_46 (List.mem_append_right _ (List.mem_append_right _ ((show _ ∈ my_46_2 from List.mem_of_getElem? (i := 9) rfl))))
theorem cd_46_254 : mt_cd 46 254 = some (.iload_n 1) := mt_cd_of (q := (254, .iload_n 1, 1)) mq_46 ci_46 (List.mem_append_right _ (List.mem_append_right _ ((show _ ∈ my_46_2 from List.mem_of_getElem? (i := 10) rfl))))
theorem cd_46_255 : mt_cd 46 255 = some (.iconst 1) := mt_cd_of (q := (255, .iconst 1, 1)) mq_46 ci_46 (List.mem_append_right _ (List.mem_append_right _ ((show _ ∈ my_46_2 from List.mem_of_getElem? (i := 11) rfl))))
theorem cd_46_256 : mt_cd 46 256 = some (.iadd) := mt_cd_of (q := (256, .iadd, 1)) mq_46 ci_46 (List.mem_append_right _ (List.mem_append_right _ ((show _ ∈ my_46_2 from List.mem_of_getElem? (i := 12) rfl))))
theorem cd_46_257 : mt_cd 46 257 = some (.invokevirtual 135) := mt_cd_of (q := (257, .invokevirtual 135, 3)) mq_46 ci_46 (List.mem_append_right _ (List.mem_append_right _ ((show _ ∈ my_46_2 from List.mem_of_getElem? (i := 13) rfl))))
theorem cd_46_260 : mt_cd 46 260 = some (.iastore) := mt_cd_of (q := (260, .iastore, 1)) mq_46 ci_46 (List.mem_append_right _ (List.mem_append_right _ ((show _ ∈ my_46_2 from List.mem_of_getElem? (i := 14) rfl))))
theorem cd_46_261 : mt_cd 46 261 = some (.aload_n 0) := mt_cd_of (q := (261, .aload_n 0, 1)) mq_46 ci_46 (List.mem_append_right _ (List.mem_append_right _ ((show _ ∈ my_46_2 from List.mem_of_getElem? (i := 15) rfl))))
theorem cd_46_262 : mt_cd 46 262 = some (.getfield 19) := mt_cd_of (q := (262, .getfield 19, 3)) mq_46 ci_46 (List.mem_append_right _ (List.mem_append_right _ ((show _ ∈ my_46_2 from List.mem_of_getElem? (i := 16) rfl))))
theorem cd_46_265 : mt_cd 46 265 = some (.getfield 138) := mt_cd_of (q := (265, .getfield 138, 3)) mq_46 ci_46 (List.mem_append_right _ (List.mem_append_right _ ((show _ ∈ my_46_2 from List.mem_of_getElem? (i := 17) rfl))))
theorem cd_46_268 : mt_cd 46 268 = some (.iload 4) := mt_cd_of (q := (268, .iload 4, 2)) mq_46 ci_46 (List.mem_append_right _ (List.mem_append_right _ ((show _ ∈ my_46_2 from List.mem_of_getElem? (i := 18) rfl))))
theorem cd_46_270 : mt_cd 46 270 = some (.aload_n 0) := mt_cd_of (q := (270, .aload_n 0, 1)) mq_46 ci_46 (List.mem_append_right _ (List.mem_append_right _ ((show _ ∈ my_46_2 from List.mem_of_getElem? (i := 19) rfl))))
theorem cd_46_271 : mt_cd 46 271 = some (.iload_n 1) := mt_cd_of (q := (271, .iload_n 1, 1)) mq_46 ci_46 (List.mem_append_right _ (List.mem_append_right _ ((show _ ∈ my_46_2 from List.mem_of_getElem? (i := 20) rfl))))
theorem cd_46_272 : mt_cd 46 272 = some (.iconst 1) := mt_cd_of (q := (272, .iconst 1, 1)) mq_46 ci_46 (List.mem_append_right _ (List.mem_append_right _ ((show _ ∈ my_46_2 from List.mem_of_getElem? (i := 21) rfl))))
theorem cd_46_273 : mt_cd 46 273 = some (.iadd) := mt_cd_of (q := (273, .iadd, 1)) mq_46 ci_46 (List.mem_append_right _ (List.mem_append_right _ ((show _ ∈ my_46_2 from List.mem_of_getElem? (i := 22) rfl))))
theorem cd_46_274 : mt_cd 46 274 = some (.invokevirtual 113) := mt_cd_of (q := (274, .invokevirtual 113, 3)) mq_46 ci_46 (List.mem_append_right _ (List.mem_append_right _ ((show _ ∈ my_46_2 from List.mem_of_getElem? (i := 23) rfl))))
theorem cd_46_277 : mt_cd 46 277 = some (.iastore) := mt_cd_of (q := (277, .iastore, 1)) mq_46 ci_46 (List.mem_append_right _ (List.mem_append_right _ ((show _ ∈ my_46_2 from List.mem_of_getElem? (i := 24) rfl))))
theorem cd_46_278 : mt_cd 46 278 = some (.iload_n 3) := mt_cd_of (q := (278, .iload_n 3, 1)) mq_46 ci_46 (List.mem_append_right _ (List.mem_append_right _ ((show _ ∈ my_46_2 from List.mem_of_getElem? (i := 25) rfl))))
theorem cd_46_279 : mt_cd 46 279 = some (.ifCond .ne 9) := mt_cd_of (q := (279, .ifCond .ne 9, 3)) mq_46 ci_46 (List.mem_append_right _ (List.mem_append_right _ ((show _ ∈ my_46_2 from List.mem_of_getElem? (i := 26) rfl))))
theorem cd_46_282 : mt_cd 46 282 = some (.iload_n 2) := mt_cd_of (q := (282, .iload_n 2, 1)) mq_46 ci_46 (List.mem_append_right _ (List.mem_append_right _ ((show _ ∈ my_46_2 from List.mem_of_getElem? (i := 27) rfl))))
theorem cd_46_283 : mt_cd 46 283 = some (.bipush 17) := mt_cd_of (q := (283, .bipush 17, 2)) mq_46 ci_46 (List.mem_append_right _ (List.mem_append_right _ ((show _ ∈ my_46_2 from List.mem_of_getElem? (i := 28) rfl))))
theorem cd_46_285 : mt_cd 46 285 = some (.if_icmp .ne 20) := mt_cd_of (q := (285, .if_icmp .ne 20, 3)) mq_46 ci_46 (List.mem_append_right _ (List.mem_append_right _ ((show _ ∈ my_46_2 from List.mem_of_getElem? (i := 29) rfl))))
theorem cd_46_288 : mt_cd 46 288 = some (.aload_n 0) := mt_cd_of (q := (288, .aload_n 0, 1)) mq_46 ci_46 (List.mem_append_right _ (List.mem_append_right _ ((show _ ∈ my_46_2 from List.mem_of_getElem? (i := 30) rfl))))
theorem cd_46_289 : mt_cd 46 289 = some (.getfield 19) := mt_cd_of (q := (289, .getfield 19, 3)) mq_46 ci_46 (List.mem_append_right _ (List.mem_append_right _ ((show _ ∈ my_46_2 from List.mem_of_getElem? (i := 31) rfl))))
theorem cd_46_292 : mt_cd 46 292 = some (.getfield 141) := mt_cd_of (q := (292, .getfield 141, 3)) mq_46 ci_46 (List.mem_append_right _ (List.mem_append_right _ ((show _ ∈ my_46_2 from List.mem_of_getElem? (i := 32) rfl))))
theorem cd_46_295 : mt_cd 46 295 = some (.iload 4) := mt_cd_of (q := (295, .iload 4, 2)) mq_46 ci_46 (List.mem_append_right _ (List.mem_append_right _ ((show _ ∈ my_46_2 from List.mem_of_getElem? (i := 33) rfl))))
theorem cd_46_297 : mt_cd 46 297 = some (.aload_n 0) := mt_cd_of (q := (297, .aload_n 0, 1)) mq_46 ci_46 (List.mem_append_right _ (List.mem_append_right _ ((show _ ∈ my_46_2 from List.mem_of_getElem? (i := 34) rfl))))
theorem cd_46_298 : mt_cd 46 298 = some (.iload_n 1) := mt_cd_of (q := (298, .iload_n 1, 1)) mq_46 ci_46 (List.mem_append_right _ (List.mem_append_right _ ((show _ ∈ my_46_2 from List.mem_of_getElem? (i := 35) rfl))))
theorem cd_46_299 : mt_cd 46 299 = some (.iconst 1) := mt_cd_of (q := (299, .iconst 1, 1)) mq_46 ci_46 (List.mem_append_right _ (List.mem_append_right _ ((show _ ∈ my_46_2 from List.mem_of_getElem? (i := 36) rfl))))
theorem cd_46_300 : mt_cd 46 300 = some (.iadd) := mt_cd_of (q := (300, .iadd, 1)) mq_46 ci_46 (List.mem_append_right _ (List.mem_append_right _ ((show _ ∈ my_46_2 from List.mem_of_getElem? (i := 37) rfl))))
theorem cd_46_301 : mt_cd 46 301 = some (.invokevirtual 113) := mt_cd_of (q := (301, .invokevirtual 113, 3)) mq_46 ci_46 (List.mem_append_right _ (List.mem_append_right _ ((show _ ∈ my_46_2 from List.mem_of_getElem? (i := 38) rfl))))
theorem cd_46_304 : mt_cd 46 304 = some (.iastore) := mt_cd_of (q := (304, .iastore, 1)) mq_46 ci_46 (List.mem_append_right _ (List.mem_append_right _ ((show _ ∈ my_46_2 from List.mem_of_getElem? (i := 39) rfl))))
theorem cd_46_305 : mt_cd 46 305 = some (.aload_n 0) := mt_cd_of (q := (305, .aload_n 0, 1)) mq_46 ci_46 (List.mem_append_right _ (List.mem_append_right _ ((show _ ∈ my_46_2 from List.mem_of_getElem? (i := 40) rfl))))
theorem cd_46_306 : mt_cd 46 306 = some (.getfield 19) := mt_cd_of (q := (306, .getfield 19, 3)) mq_46 ci_46 (List.mem_append_right _ (List.mem_append_right _ ((show _ ∈ my_46_2 from List.mem_of_getElem? (i := 41) rfl))))
theorem cd_46_309 : mt_cd 46 309 = some (.getfield 144) := mt_cd_of (q := (309, .getfield 144, 3)) mq_46 ci_46 (List.mem_append_right _ (List.mem_append_right _ ((show _ ∈ my_46_2 from List.mem_of_getElem? (i := 42) rfl))))
theorem cd_46_312 : mt_cd 46 312 = some (.iload 4) := mt_cd_of (q := (312, .iload 4, 2)) mq_46 ci_46 (List.mem_append_right _ (List.mem_append_right _ ((show _ ∈ my_46_2 from List.mem_of_getElem? (i := 43) rfl))))
theorem cd_46_314 : mt_cd 46 314 = some (.aload_n 0) := mt_cd_of (q := (314, .aload_n 0, 1)) mq_46 ci_46 (List.mem_append_right _ (List.mem_append_right _ ((show _ ∈ my_46_2 from List.mem_of_getElem? (i := 44) rfl))))
theorem cd_46_315 : mt_cd 46 315 = some (.getfield 19) := mt_cd_of (q := (315, .getfield 19, 3)) mq_46 ci_46 (List.mem_append_right _ (List.mem_append_right _ ((show _ ∈ my_46_2 from List.mem_of_getElem? (i := 45) rfl))))
theorem cd_46_318 : mt_cd 46 318 = some (.getfield 87) := mt_cd_of (q := (318, .getfield 87, 3)) mq_46 ci_46 (List.mem_append_right _ (List.mem_append_right _ ((show _ ∈ my_46_2 from List.mem_of_getElem? (i := 46) rfl))))
theorem cd_46_321 : mt_cd 46 321 = some (.iastore) := mt_cd_of (q := (321, .iastore, 1)) mq_46 ci_46 (List.mem_append_right _ (List.mem_append_right _ ((show _ ∈ my_46_2 from List.mem_of_getElem? (i := 47) rfl))))
theorem cd_46_322 : mt_cd 46 322 = some (.iload 4) := mt_cd_of (q := (322, .iload 4, 2)) mq_46 ci_46 (List.mem_append_right _ (List.mem_append_right _ ((show _ ∈ my_46_2 from List.mem_of_getElem? (i := 48) rfl))))
theorem cd_46_324 : mt_cd 46 324 = some (.ireturn) := mt_cd_of (q := (324, .ireturn, 1)) mq_46 ci_46 (List.mem_append_right _ (List.mem_append_right _ ((show _ ∈ my_46_2 from List.mem_of_getElem? (i := 49) rfl))))
theorem b_46_0 {d : Nat} {Q : (Option Value ⊕ Nat) → mi_H → Prop} (n sl : Nat) (f : Nat → mi_C) {l1 : Nat} {l2 : Int32} {o3 : Option Value} {o4 : Option Value} {o5 : Option Value} (h6 : 100 < l2 → mi_W d 46 11 [some (.ref l1), some (.int l2), o3, o4, o5] [.ref l1] (n, sl, f) Q) (h7 : ¬ (100 < l2) → mi_W d 46 7 [some (.ref l1), some (.int l2), o3, o4, o5] [.ref l1] (n, sl, f) Q) : mi_W d 46 0 [some (.ref l1), some (.int l2), o3, o4, o5] [] (n, sl, f) Q := by
  refine w_aload_n cd_46_0 rfl ?_
  refine w_iload_n cd_46_1 rfl ?_
  refine w_bipush (v := 100) cd_46_2 (by decide) ?_
  exact w_if_icmpgt cd_46_4 (by decide) h6 h7
theorem b_46_7 {d : Nat} {Q : (Option Value ⊕ Nat) → mi_H → Prop} (n sl : Nat) (f : Nat → mi_C) {l1 : Nat} {l2 : Int32} {o3 : Option Value} {o4 : Option Value} {o5 : Option Value} {s6 : Nat} (h7 : mi_W d 46 12 [some (.ref l1), some (.int l2), o3, o4, o5] [.int 1, .ref s6] (n, sl, f) Q) : mi_W d 46 7 [some (.ref l1), some (.int l2), o3, o4, o5] [.ref s6] (n, sl, f) Q := by
  refine w_iconst (v := 1) cd_46_7 (by decide) ?_
  exact w_goto cd_46_8 (by decide) h7
theorem b_46_11 {d : Nat} {Q : (Option Value ⊕ Nat) → mi_H → Prop} (n sl : Nat) (f : Nat → mi_C) {l1 : Nat} {l2 : Int32} {o3 : Option Value} {o4 : Option Value} {o5 : Option Value} {s6 : Nat} (h7 : mi_W d 46 12 [some (.ref l1), some (.int l2), o3, o4, o5] [.int 0, .ref s6] (n, sl, f) Q) : mi_W d 46 11 [some (.ref l1), some (.int l2), o3, o4, o5] [.ref s6] (n, sl, f) Q := by
  refine w_iconst (v := 0) cd_46_11 (by decide) ?_
  exact h7
theorem b_46_12 {d : Nat} {Q : (Option Value ⊕ Nat) → mi_H → Prop} (n sl : Nat) (f : Nat → mi_C) {l1 : Nat} {l2 : Int32} {o3 : Option Value} {o4 : Option Value} {o5 : Option Value} {s6 : Int32} {s7 : Nat} {fs8 : List Value} (h9 : f s7 = .inr (3, fs8)) (h10 : s7 < n) (h11 : mi_W d 38 0 (mi_en 2 [.ref s7, .int s6]) [] (n, sl, f) (mi_Kc d 46 12 [some (.ref l1), some (.int l2), o3, o4, o5] [] Q)) : mi_W (d + 1) 46 12 [some (.ref l1), some (.int l2), o3, o4, o5] [.int s6, .ref s7] (n, sl, f) Q := by
  exact w_invokevirtual cd_46_12 (show mt_m 3 70 = some (38, 0) by decide +kernel) (rest := []) rfl (as := [.ref s7, .int s6]) rfl h9 (Or.inl h10) ⟨Nat.le_of_ble_eq_true rfl, Nat.le_of_ble_eq_true rfl, Nat.le_of_ble_eq_true rfl⟩ h11
theorem b_46_15 {d : Nat} {Q : (Option Value ⊕ Nat) → mi_H → Prop} (n sl : Nat) (f : Nat → mi_C) {l1 : Nat} {l2 : Int32} {o3 : Option Value} {o4 : Option Value} {o5 : Option Value} {fs6 : List Value} {x9 : Nat} {fs11 : List Value} {x14 : Int32} (h7 : f l1 = .inr (3, fs6)) (h8 : l1 < n) (h10 : fs6[0]? = some (.ref x9)) (h12 : f x9 = .inr (1, fs11)) (h13 : x9 < n) (h15 : fs11[2]? = some (.int x14)) (h16 : ¬ x14 = 24 → mi_W d 46 50 [some (.ref l1), some (.int l2), o3, o4, o5] [] (n, sl, f) Q) (h17 : ¬ (¬ x14 = 24) → mi_W d 46 27 [some (.ref l1), some (.int l2), o3, o4, o5] [] (n, sl, f) Q) : mi_W d 46 15 [some (.ref l1), some (.int l2), o3, o4, o5] [] (n, sl, f) Q := by
  refine w_aload_n cd_46_15 rfl ?_
  refine w_getfield cd_46_16 (show mt_f 3 15 = some (3, 0) by decide +kernel) h7 h8 h10 ?_
  refine w_getfield cd_46_19 (show mt_f 3 67 = some (1, 2) by decide +kernel) h12 h13 h15 ?_
  refine w_bipush (v := 24) cd_46_22 (by decide) ?_
  exact w_if_icmpne cd_46_24 (by decide) h16 h17
theorem b_46_27 {d : Nat} {Q : (Option Value ⊕ Nat) → mi_H → Prop} (n sl : Nat) (f : Nat → mi_C) {l1 : Nat} {l2 : Int32} {o3 : Option Value} {o4 : Option Value} {o5 : Option Value} {fs6 : List Value} {x9 : Nat} {fs11 : List Value} (h7 : f l1 = .inr (3, fs6)) (h8 : l1 < n) (h10 : fs6[0]? = some (.ref x9)) (h12 : f x9 = .inr (1, fs11)) (h13 : x9 < n) (h14 : mi_W d 24 0 (mi_en 2 [.ref x9]) [] (n, sl, f) (mi_Kc d 46 31 [some (.ref l1), some (.int l2), o3, o4, o5] [] Q)) : mi_W (d + 1) 46 27 [some (.ref l1), some (.int l2), o3, o4, o5] [] (n, sl, f) Q := by
  refine w_aload_n cd_46_27 rfl ?_
  refine w_getfield cd_46_28 (show mt_f 3 15 = some (3, 0) by decide +kernel) h7 h8 h10 ?_
  exact w_invokevirtual cd_46_31 (show mt_m 3 84 = some (24, 0) by decide +kernel) (rest := []) rfl (as := [.ref x9]) rfl h12 (Or.inl h13) ⟨Nat.le_of_ble_eq_true rfl, Nat.le_of_ble_eq_true rfl, Nat.le_of_ble_eq_true rfl⟩ h14
theorem b_46_34 {d : Nat} {Q : (Option Value ⊕ Nat) → mi_H → Prop} (n sl : Nat) (f : Nat → mi_C) {l1 : Nat} {l2 : Int32} {o3 : Option Value} {o4 : Option Value} {o5 : Option Value} {fs6 : List Value} (h7 : f l1 = .inr (3, fs6)) (h8 : l1 < n) (h9 : mi_W d 46 0 (mi_en 5 [.ref l1, .int (l2 + 1)]) [] (n, sl, f) (mi_Kc d 46 38 [some (.ref l1), some (.int l2), o3, o4, o5] [] Q)) : mi_W (d + 1) 46 34 [some (.ref l1), some (.int l2), o3, o4, o5] [] (n, sl, f) Q := by
  refine w_aload_n cd_46_34 rfl ?_
  refine w_iload_n cd_46_35 rfl ?_
  refine w_iconst (v := 1) cd_46_36 (by decide) ?_
  refine w_iadd cd_46_37 ?_
  exact w_invokevirtual cd_46_38 (show mt_m 3 113 = some (46, 0) by decide +kernel) (rest := []) rfl (as := [.ref l1, .int (l2 + 1)]) rfl h7 (Or.inl h8) ⟨Nat.le_of_ble_eq_true rfl, Nat.le_of_ble_eq_true rfl, Nat.le_of_ble_eq_true rfl⟩ h9
theorem b_46_41 {d : Nat} {Q : (Option Value ⊕ Nat) → mi_H → Prop} (n sl : Nat) (f : Nat → mi_C) {l1 : Nat} {l2 : Int32} {o3 : Option Value} {o4 : Option Value} {o5 : Option Value} {s6 : Int32} {fs7 : List Value} (h8 : f l1 = .inr (3, fs7)) (h9 : l1 < n) (h10 : mi_W d 39 0 (mi_en 2 [.ref l1, .int 25]) [] (n, sl, f) (mi_Kc d 46 45 [some (.ref l1), some (.int l2), some (.int s6), o4, o5] [] Q)) : mi_W (d + 1) 46 41 [some (.ref l1), some (.int l2), o3, o4, o5] [.int s6] (n, sl, f) Q := by
  refine w_istore_n (ls' := [some (.ref l1), some (.int l2), some (.int s6), o4, o5]) cd_46_41 (Nat.le_of_ble_eq_true rfl) rfl ?_
  refine w_aload_n cd_46_42 rfl ?_
  refine w_bipush (v := 25) cd_46_43 (by decide) ?_
  exact w_invokevirtual cd_46_45 (show mt_m 3 99 = some (39, 0) by decide +kernel) (rest := []) rfl (as := [.ref l1, .int 25]) rfl h8 (Or.inl h9) ⟨Nat.le_of_ble_eq_true rfl, Nat.le_of_ble_eq_true rfl, Nat.le_of_ble_eq_true rfl⟩ h10
theorem b_46_48 {d : Nat} {Q : (Option Value ⊕ Nat) → mi_H → Prop} (n sl : Nat) (f : Nat → mi_C) {l1 : Nat} {l2 : Int32} {l3 : Int32} {o4 : Option Value} {o5 : Option Value} (h6 : Q (.inl (some (.int l3))) (n, sl, f)) : mi_W d 46 48 [some (.ref l1), some (.int l2), some (.int l3), o4, o5] [] (n, sl, f) Q := by
  refine w_iload_n cd_46_48 rfl ?_
  exact w_ireturn_i cd_46_49 (by decide +kernel) h6
theorem b_46_50 {d : Nat} {Q : (Option Value ⊕ Nat) → mi_H → Prop} (n sl : Nat) (f : Nat → mi_C) {l1 : Nat} {l2 : Int32} {o3 : Option Value} {o4 : Option Value} {o5 : Option Value} {fs6 : List Value} {x9 : Nat} {fs11 : List Value} {x14 : Int32} (h7 : f l1 = .inr (3, fs6)) (h8 : l1 < n) (h10 : fs6[0]? = some (.ref x9)) (h12 : f x9 = .inr (1, fs11)) (h13 : x9 < n) (h15 : fs11[2]? = some (.int x14)) (h16 : x14 < 28 → mi_W d 46 74 [some (.ref l1), some (.int l2), some (.int x14), o4, o5] [] (n, sl, f) Q) (h17 : ¬ (x14 < 28) → mi_W d 46 64 [some (.ref l1), some (.int l2), some (.int x14), o4, o5] [] (n, sl, f) Q) : mi_W d 46 50 [some (.ref l1), some (.int l2), o3, o4, o5] [] (n, sl, f) Q := by
  refine w_aload_n cd_46_50 rfl ?_
  refine w_getfield cd_46_51 (show mt_f 3 15 = some (3, 0) by decide +kernel) h7 h8 h10 ?_
  refine w_getfield cd_46_54 (show mt_f 3 67 = some (1, 2) by decide +kernel) h12 h13 h15 ?_
  refine w_istore_n (ls' := [some (.ref l1), some (.int l2), some (.int x14), o4, o5]) cd_46_57 (Nat.le_of_ble_eq_true rfl) rfl ?_
  refine w_iload_n cd_46_58 rfl ?_
  refine w_bipush (v := 28) cd_46_59 (by decide) ?_
  exact w_if_icmplt cd_46_61 (by decide) h16 h17
theorem b_46_64 {d : Nat} {Q : (Option Value ⊕ Nat) → mi_H → Prop} (n sl : Nat) (f : Nat → mi_C) {l1 : Nat} {l2 : Int32} {l3 : Int32} {o4 : Option Value} {o5 : Option Value} (h6 : 31 < l3 → mi_W d 46 74 [some (.ref l1), some (.int l2), some (.int l3), o4, o5] [] (n, sl, f) Q) (h7 : ¬ (31 < l3) → mi_W d 46 70 [some (.ref l1), some (.int l2), some (.int l3), o4, o5] [] (n, sl, f) Q) : mi_W d 46 64 [some (.ref l1), some (.int l2), some (.int l3), o4, o5] [] (n, sl, f) Q := by
  refine w_iload_n cd_46_64 rfl ?_
  refine w_bipush (v := 31) cd_46_65 (by decide) ?_
  exact w_if_icmpgt cd_46_67 (by decide) h6 h7
theorem b_46_70 {d : Nat} {Q : (Option Value ⊕ Nat) → mi_H → Prop} (n sl : Nat) (f : Nat → mi_C) {l1 : Nat} {l2 : Int32} {l3 : Int32} {o4 : Option Value} {o5 : Option Value} (h6 : mi_W d 46 75 [some (.ref l1), some (.int l2), some (.int l3), o4, o5] [.int 1] (n, sl, f) Q) : mi_W d 46 70 [some (.ref l1), some (.int l2), some (.int l3), o4, o5] [] (n, sl, f) Q := by
  refine w_iconst (v := 1) cd_46_70 (by decide) ?_
  exact w_goto cd_46_71 (by decide) h6
theorem b_46_74 {d : Nat} {Q : (Option Value ⊕ Nat) → mi_H → Prop} (n sl : Nat) (f : Nat → mi_C) {l1 : Nat} {l2 : Int32} {l3 : Int32} {o4 : Option Value} {o5 : Option Value} (h6 : mi_W d 46 75 [some (.ref l1), some (.int l2), some (.int l3), o4, o5] [.int 0] (n, sl, f) Q) : mi_W d 46 74 [some (.ref l1), some (.int l2), some (.int l3), o4, o5] [] (n, sl, f) Q := by
  refine w_iconst (v := 0) cd_46_74 (by decide) ?_
  exact h6
theorem b_46_75 {d : Nat} {Q : (Option Value ⊕ Nat) → mi_H → Prop} (n sl : Nat) (f : Nat → mi_C) {l1 : Nat} {l2 : Int32} {l3 : Int32} {o4 : Option Value} {o5 : Option Value} {s6 : Int32} (h7 : l3 = 37 → mi_W d 46 99 [some (.ref l1), some (.int l2), some (.int l3), some (.int s6), o5] [.ref l1] (n, sl, f) Q) (h8 : ¬ (l3 = 37) → mi_W d 46 83 [some (.ref l1), some (.int l2), some (.int l3), some (.int s6), o5] [.ref l1] (n, sl, f) Q) : mi_W d 46 75 [some (.ref l1), some (.int l2), some (.int l3), o4, o5] [.int s6] (n, sl, f) Q := by
  refine w_istore_n (ls' := [some (.ref l1), some (.int l2), some (.int l3), some (.int s6), o5]) cd_46_75 (Nat.le_of_ble_eq_true rfl) rfl ?_
  refine w_aload_n cd_46_76 rfl ?_
  refine w_iload_n cd_46_77 rfl ?_
  refine w_bipush (v := 37) cd_46_78 (by decide) ?_
  exact w_if_icmpeq cd_46_80 (by decide) h7 h8
theorem b_46_83 {d : Nat} {Q : (Option Value ⊕ Nat) → mi_H → Prop} (n sl : Nat) (f : Nat → mi_C) {l1 : Nat} {l2 : Int32} {l3 : Int32} {l4 : Int32} {o5 : Option Value} {s6 : Nat} (h7 : ¬ l4 = (0 : Int32) → mi_W d 46 99 [some (.ref l1), some (.int l2), some (.int l3), some (.int l4), o5] [.ref s6] (n, sl, f) Q) (h8 : ¬ (¬ l4 = (0 : Int32)) → mi_W d 46 87 [some (.ref l1), some (.int l2), some (.int l3), some (.int l4), o5] [.ref s6] (n, sl, f) Q) : mi_W d 46 83 [some (.ref l1), some (.int l2), some (.int l3), some (.int l4), o5] [.ref s6] (n, sl, f) Q := by
  refine w_iload_n cd_46_83 rfl ?_
  exact w_ifne cd_46_84 (by decide) h7 h8
theorem b_46_87 {d : Nat} {Q : (Option Value ⊕ Nat) → mi_H → Prop} (n sl : Nat) (f : Nat → mi_C) {l1 : Nat} {l2 : Int32} {l3 : Int32} {l4 : Int32} {o5 : Option Value} {s6 : Nat} (h7 : l3 < 11 → mi_W d 46 103 [some (.ref l1), some (.int l2), some (.int l3), some (.int l4), o5] [.ref s6] (n, sl, f) Q) (h8 : ¬ (l3 < 11) → mi_W d 46 93 [some (.ref l1), some (.int l2), some (.int l3), some (.int l4), o5] [.ref s6] (n, sl, f) Q) : mi_W d 46 87 [some (.ref l1), some (.int l2), some (.int l3), some (.int l4), o5] [.ref s6] (n, sl, f) Q := by
  refine w_iload_n cd_46_87 rfl ?_
  refine w_bipush (v := 11) cd_46_88 (by decide) ?_
  exact w_if_icmplt cd_46_90 (by decide) h7 h8
theorem b_46_93 {d : Nat} {Q : (Option Value ⊕ Nat) → mi_H → Prop} (n sl : Nat) (f : Nat → mi_C) {l1 : Nat} {l2 : Int32} {l3 : Int32} {l4 : Int32} {o5 : Option Value} {s6 : Nat} (h7 : 17 < l3 → mi_W d 46 103 [some (.ref l1), some (.int l2), some (.int l3), some (.int l4), o5] [.ref s6] (n, sl, f) Q) (h8 : ¬ (17 < l3) → mi_W d 46 99 [some (.ref l1), some (.int l2), some (.int l3), some (.int l4), o5] [.ref s6] (n, sl, f) Q) : mi_W d 46 93 [some (.ref l1), some (.int l2), some (.int l3), some (.int l4), o5] [.ref s6] (n, sl, f) Q := by
  refine w_iload_n cd_46_93 rfl ?_
  refine w_bipush (v := 17) cd_46_94 (by decide) ?_
  exact w_if_icmpgt cd_46_96 (by decide) h7 h8
theorem b_46_99 {d : Nat} {Q : (Option Value ⊕ Nat) → mi_H → Prop} (n sl : Nat) (f : Nat → mi_C) {l1 : Nat} {l2 : Int32} {l3 : Int32} {l4 : Int32} {o5 : Option Value} {s6 : Nat} (h7 : mi_W d 46 104 [some (.ref l1), some (.int l2), some (.int l3), some (.int l4), o5] [.int 1, .ref s6] (n, sl, f) Q) : mi_W d 46 99 [some (.ref l1), some (.int l2), some (.int l3), some (.int l4), o5] [.ref s6] (n, sl, f) Q := by
  refine w_iconst (v := 1) cd_46_99 (by decide) ?_
  exact w_goto cd_46_100 (by decide) h7
theorem b_46_103 {d : Nat} {Q : (Option Value ⊕ Nat) → mi_H → Prop} (n sl : Nat) (f : Nat → mi_C) {l1 : Nat} {l2 : Int32} {l3 : Int32} {l4 : Int32} {o5 : Option Value} {s6 : Nat} (h7 : mi_W d 46 104 [some (.ref l1), some (.int l2), some (.int l3), some (.int l4), o5] [.int 0, .ref s6] (n, sl, f) Q) : mi_W d 46 103 [some (.ref l1), some (.int l2), some (.int l3), some (.int l4), o5] [.ref s6] (n, sl, f) Q := by
  refine w_iconst (v := 0) cd_46_103 (by decide) ?_
  exact h7
theorem b_46_104 {d : Nat} {Q : (Option Value ⊕ Nat) → mi_H → Prop} (n sl : Nat) (f : Nat → mi_C) {l1 : Nat} {l2 : Int32} {l3 : Int32} {l4 : Int32} {o5 : Option Value} {s6 : Int32} {s7 : Nat} {fs8 : List Value} (h9 : f s7 = .inr (3, fs8)) (h10 : s7 < n) (h11 : mi_W d 38 0 (mi_en 2 [.ref s7, .int s6]) [] (n, sl, f) (mi_Kc d 46 104 [some (.ref l1), some (.int l2), some (.int l3), some (.int l4), o5] [] Q)) : mi_W (d + 1) 46 104 [some (.ref l1), some (.int l2), some (.int l3), some (.int l4), o5] [.int s6, .ref s7] (n, sl, f) Q := by
  exact w_invokevirtual cd_46_104 (show mt_m 3 70 = some (38, 0) by decide +kernel) (rest := []) rfl (as := [.ref s7, .int s6]) rfl h9 (Or.inl h10) ⟨Nat.le_of_ble_eq_true rfl, Nat.le_of_ble_eq_true rfl, Nat.le_of_ble_eq_true rfl⟩ h11
theorem b_46_107 {d : Nat} {Q : (Option Value ⊕ Nat) → mi_H → Prop} (n sl : Nat) (f : Nat → mi_C) {l1 : Nat} {l2 : Int32} {l3 : Int32} {l4 : Int32} {o5 : Option Value} {fs6 : List Value} (h7 : f l1 = .inr (3, fs6)) (h8 : l1 < n) (h9 : mi_W d 40 0 (mi_en 2 [.ref l1]) [] (n, sl, f) (mi_Kc d 46 108 [some (.ref l1), some (.int l2), some (.int l3), some (.int l4), o5] [] Q)) : mi_W (d + 1) 46 107 [some (.ref l1), some (.int l2), some (.int l3), some (.int l4), o5] [] (n, sl, f) Q := by
  refine w_aload_n cd_46_107 rfl ?_
  exact w_invokevirtual cd_46_108 (show mt_m 3 102 = some (40, 0) by decide +kernel) (rest := []) rfl (as := [.ref l1]) rfl h7 (Or.inl h8) ⟨Nat.le_of_ble_eq_true rfl, Nat.le_of_ble_eq_true rfl, Nat.le_of_ble_eq_true rfl⟩ h9
theorem b_46_111 {d : Nat} {Q : (Option Value ⊕ Nat) → mi_H → Prop} (n sl : Nat) (f : Nat → mi_C) {l1 : Nat} {l2 : Int32} {l3 : Int32} {l4 : Int32} {o5 : Option Value} {s6 : Int32} (h7 : ¬ l3 = 11 → mi_W d 46 158 [some (.ref l1), some (.int l2), some (.int l3), some (.int l4), some (.int s6)] [] (n, sl, f) Q) (h8 : ¬ (¬ l3 = 11) → mi_W d 46 119 [some (.ref l1), some (.int l2), some (.int l3), some (.int l4), some (.int s6)] [] (n, sl, f) Q) : mi_W d 46 111 [some (.ref l1), some (.int l2), some (.int l3), some (.int l4), o5] [.int s6] (n, sl, f) Q := by
  refine w_istore (ls' := [some (.ref l1), some (.int l2), some (.int l3), some (.int l4), some (.int s6)]) cd_46_111 (Nat.le_of_ble_eq_true rfl) rfl ?_
  refine w_iload_n cd_46_113 rfl ?_
  refine w_bipush (v := 11) cd_46_114 (by decide) ?_
  exact w_if_icmpne cd_46_116 (by decide) h7 h8
theorem b_46_119 {d : Nat} {Q : (Option Value ⊕ Nat) → mi_H → Prop} (n sl : Nat) (f : Nat → mi_C) {l1 : Nat} {l2 : Int32} {l3 : Int32} {l4 : Int32} {l5 : Int32} {fs6 : List Value} {x9 : Nat} {fs11 : List Value} {x14 : Nat} {fs16 : List Value} {x19 : Nat} {fs21 : List Value} (h7 : f l1 = .inr (3, fs6)) (h8 : l1 < n) (h10 : fs6[1]? = some (.ref x9)) (h12 : f x9 = .inr (2, fs11)) (h13 : x9 < n) (h15 : fs11[4]? = some (.ref x14)) (h17 : f l1 = .inr (3, fs16)) (h18 : l1 < n) (h20 : fs16[2]? = some (.ref x19)) (h22 : f l1 = .inr (3, fs21)) (h23 : l1 < n) (h24 : mi_W d 43 0 (mi_en 3 [.ref l1, .ref x19]) [] (n, sl, f) (mi_Kc d 46 133 [some (.ref l1), some (.int l2), some (.int l3), some (.int l4), some (.int l5)] [.int l5, .ref x14] Q)) : mi_W (d + 1) 46 119 [some (.ref l1), some (.int l2), some (.int l3), some (.int l4), some (.int l5)] [] (n, sl, f) Q := by
  refine w_aload_n cd_46_119 rfl ?_
  refine w_getfield cd_46_120 (show mt_f 3 19 = some (3, 1) by decide +kernel) h7 h8 h10 ?_
  refine w_getfield cd_46_123 (show mt_f 3 128 = some (2, 4) by decide +kernel) h12 h13 h15 ?_
  refine w_iload cd_46_126 rfl ?_
  refine w_aload_n cd_46_128 rfl ?_
  refine w_aload_n cd_46_129 rfl ?_
  refine w_getfield cd_46_130 (show mt_f 3 34 = some (3, 2) by decide +kernel) h17 h18 h20 ?_
  exact w_invokevirtual cd_46_133 (show mt_m 3 131 = some (43, 0) by decide +kernel) (rest := [.int l5, .ref x14]) rfl (as := [.ref l1, .ref x19]) rfl h22 (Or.inl h23) ⟨Nat.le_of_ble_eq_true rfl, Nat.le_of_ble_eq_true rfl, Nat.le_of_ble_eq_true rfl⟩ h24
theorem b_46_136 {d : Nat} {Q : (Option Value ⊕ Nat) → mi_H → Prop} (n sl : Nat) (f : Nat → mi_C) {l1 : Nat} {l2 : Int32} {l3 : Int32} {l4 : Int32} {l5 : Int32} {s6 : Int32} {s7 : Int32} {s8 : Nat} (m9 i9 : Nat) (g9 : Nat → Int32) {fs13 : List Value} {x16 : Nat} {fs18 : List Value} {x21 : Nat} {fs23 : List Value} {x26 : Nat} {fs28 : List Value} (h10 : f s8 = .inl (0, m9, .inl g9)) (h11 : s8 < n) (h12 : mi_ix s7 m9 i9) (h14 : (va_up f s8 (.inl (0, m9, .inl (upd g9 i9 s6)))) l1 = .inr (3, fs13)) (h15 : l1 < n) (h17 : fs13[1]? = some (.ref x16)) (h19 : (va_up f s8 (.inl (0, m9, .inl (upd g9 i9 s6)))) x16 = .inr (2, fs18)) (h20 : x16 < n) (h22 : fs18[5]? = some (.ref x21)) (h24 : (va_up f s8 (.inl (0, m9, .inl (upd g9 i9 s6)))) l1 = .inr (3, fs23)) (h25 : l1 < n) (h27 : fs23[3]? = some (.ref x26)) (h29 : (va_up f s8 (.inl (0, m9, .inl (upd g9 i9 s6)))) l1 = .inr (3, fs28)) (h30 : l1 < n) (h31 : mi_W d 43 0 (mi_en 3 [.ref l1, .ref x26]) [] (n, sl, (va_up f s8 (.inl (0, m9, .inl (upd g9 i9 s6))))) (mi_Kc d 46 151 [some (.ref l1), some (.int l2), some (.int l3), some (.int l4), some (.int l5)] [.int l5, .ref x21] Q)) : mi_W (d + 1) 46 136 [some (.ref l1), some (.int l2), some (.int l3), some (.int l4), some (.int l5)] [.int s6, .int s7, .ref s8] (n, sl, f) Q := by
  refine w_iastore cd_46_136 h10 h11 h12 ?_
  refine w_aload_n cd_46_137 rfl ?_
  refine w_getfield cd_46_138 (show mt_f 3 19 = some (3, 1) by decide +kernel) h14 h15 h17 ?_
  refine w_getfield cd_46_141 (show mt_f 3 151 = some (2, 5) by decide +kernel) h19 h20 h22 ?_
  refine w_iload cd_46_144 rfl ?_
  refine w_aload_n cd_46_146 rfl ?_
  refine w_aload_n cd_46_147 rfl ?_
  refine w_getfield cd_46_148 (show mt_f 3 38 = some (3, 3) by decide +kernel) h24 h25 h27 ?_
  exact w_invokevirtual cd_46_151 (show mt_m 3 131 = some (43, 0) by decide +kernel) (rest := [.int l5, .ref x21]) rfl (as := [.ref l1, .ref x26]) rfl h29 (Or.inl h30) ⟨Nat.le_of_ble_eq_true rfl, Nat.le_of_ble_eq_true rfl, Nat.le_of_ble_eq_true rfl⟩ h31
theorem b_46_154 {d : Nat} {Q : (Option Value ⊕ Nat) → mi_H → Prop} (n sl : Nat) (f : Nat → mi_C) {l1 : Nat} {l2 : Int32} {l3 : Int32} {l4 : Int32} {l5 : Int32} {s6 : Int32} {s7 : Int32} {s8 : Nat} (m9 i9 : Nat) (g9 : Nat → Int32) (h10 : f s8 = .inl (0, m9, .inl g9)) (h11 : s8 < n) (h12 : mi_ix s7 m9 i9) (h13 : mi_W d 46 278 [some (.ref l1), some (.int l2), some (.int l3), some (.int l4), some (.int l5)] [] (n, sl, (va_up f s8 (.inl (0, m9, .inl (upd g9 i9 s6))))) Q) : mi_W d 46 154 [some (.ref l1), some (.int l2), some (.int l3), some (.int l4), some (.int l5)] [.int s6, .int s7, .ref s8] (n, sl, f) Q := by
  refine w_iastore cd_46_154 h10 h11 h12 ?_
  exact w_goto cd_46_155 (by decide) h13
theorem b_46_158 {d : Nat} {Q : (Option Value ⊕ Nat) → mi_H → Prop} (n sl : Nat) (f : Nat → mi_C) {l1 : Nat} {l2 : Int32} {l3 : Int32} {l4 : Int32} {l5 : Int32} (h6 : ¬ l3 = 13 → mi_W d 46 181 [some (.ref l1), some (.int l2), some (.int l3), some (.int l4), some (.int l5)] [] (n, sl, f) Q) (h7 : ¬ (¬ l3 = 13) → mi_W d 46 164 [some (.ref l1), some (.int l2), some (.int l3), some (.int l4), some (.int l5)] [] (n, sl, f) Q) : mi_W d 46 158 [some (.ref l1), some (.int l2), some (.int l3), some (.int l4), some (.int l5)] [] (n, sl, f) Q := by
  refine w_iload_n cd_46_158 rfl ?_
  refine w_bipush (v := 13) cd_46_159 (by decide) ?_
  exact w_if_icmpne cd_46_161 (by decide) h6 h7
theorem b_46_164 {d : Nat} {Q : (Option Value ⊕ Nat) → mi_H → Prop} (n sl : Nat) (f : Nat → mi_C) {l1 : Nat} {l2 : Int32} {l3 : Int32} {l4 : Int32} {l5 : Int32} {fs6 : List Value} {x9 : Nat} {fs11 : List Value} {x14 : Nat} {fs16 : List Value} (h7 : f l1 = .inr (3, fs6)) (h8 : l1 < n) (h10 : fs6[1]? = some (.ref x9)) (h12 : f x9 = .inr (2, fs11)) (h13 : x9 < n) (h15 : fs11[4]? = some (.ref x14)) (h17 : f l1 = .inr (3, fs16)) (h18 : l1 < n) (h19 : mi_W d 47 0 (mi_en 5 [.ref l1]) [] (n, sl, f) (mi_Kc d 46 174 [some (.ref l1), some (.int l2), some (.int l3), some (.int l4), some (.int l5)] [.int l5, .ref x14] Q)) : mi_W (d + 1) 46 164 [some (.ref l1), some (.int l2), some (.int l3), some (.int l4), some (.int l5)] [] (n, sl, f) Q := by
  refine w_aload_n cd_46_164 rfl ?_
  refine w_getfield cd_46_165 (show mt_f 3 19 = some (3, 1) by decide +kernel) h7 h8 h10 ?_
  refine w_getfield cd_46_168 (show mt_f 3 128 = some (2, 4) by decide +kernel) h12 h13 h15 ?_
  refine w_iload cd_46_171 rfl ?_
  refine w_aload_n cd_46_173 rfl ?_
  exact w_invokevirtual cd_46_174 (show mt_m 3 157 = some (47, 0) by decide +kernel) (rest := [.int l5, .ref x14]) rfl (as := [.ref l1]) rfl h17 (Or.inl h18) ⟨Nat.le_of_ble_eq_true rfl, Nat.le_of_ble_eq_true rfl, Nat.le_of_ble_eq_true rfl⟩ h19
theorem b_46_177 {d : Nat} {Q : (Option Value ⊕ Nat) → mi_H → Prop} (n sl : Nat) (f : Nat → mi_C) {l1 : Nat} {l2 : Int32} {l3 : Int32} {l4 : Int32} {l5 : Int32} {s6 : Int32} {s7 : Int32} {s8 : Nat} (m9 i9 : Nat) (g9 : Nat → Int32) (h10 : f s8 = .inl (0, m9, .inl g9)) (h11 : s8 < n) (h12 : mi_ix s7 m9 i9) (h13 : mi_W d 46 278 [some (.ref l1), some (.int l2), some (.int l3), some (.int l4), some (.int l5)] [] (n, sl, (va_up f s8 (.inl (0, m9, .inl (upd g9 i9 s6))))) Q) : mi_W d 46 177 [some (.ref l1), some (.int l2), some (.int l3), some (.int l4), some (.int l5)] [.int s6, .int s7, .ref s8] (n, sl, f) Q := by
  refine w_iastore cd_46_177 h10 h11 h12 ?_
  exact w_goto cd_46_178 (by decide) h13
theorem b_46_181 {d : Nat} {Q : (Option Value ⊕ Nat) → mi_H → Prop} (n sl : Nat) (f : Nat → mi_C) {l1 : Nat} {l2 : Int32} {l3 : Int32} {l4 : Int32} {l5 : Int32} (h6 : ¬ l3 = 14 → mi_W d 46 208 [some (.ref l1), some (.int l2), some (.int l3), some (.int l4), some (.int l5)] [] (n, sl, f) Q) (h7 : ¬ (¬ l3 = 14) → mi_W d 46 187 [some (.ref l1), some (.int l2), some (.int l3), some (.int l4), some (.int l5)] [] (n, sl, f) Q) : mi_W d 46 181 [some (.ref l1), some (.int l2), some (.int l3), some (.int l4), some (.int l5)] [] (n, sl, f) Q := by
  refine w_iload_n cd_46_181 rfl ?_
  refine w_bipush (v := 14) cd_46_182 (by decide) ?_
  exact w_if_icmpne cd_46_184 (by decide) h6 h7
theorem b_46_187 {d : Nat} {Q : (Option Value ⊕ Nat) → mi_H → Prop} (n sl : Nat) (f : Nat → mi_C) {l1 : Nat} {l2 : Int32} {l3 : Int32} {l4 : Int32} {l5 : Int32} {fs6 : List Value} {x9 : Nat} {fs11 : List Value} {x14 : Nat} {fs16 : List Value} {x19 : Nat} {fs21 : List Value} (h7 : f l1 = .inr (3, fs6)) (h8 : l1 < n) (h10 : fs6[1]? = some (.ref x9)) (h12 : f x9 = .inr (2, fs11)) (h13 : x9 < n) (h15 : fs11[4]? = some (.ref x14)) (h17 : f l1 = .inr (3, fs16)) (h18 : l1 < n) (h20 : fs16[5]? = some (.ref x19)) (h22 : f l1 = .inr (3, fs21)) (h23 : l1 < n) (h24 : mi_W d 43 0 (mi_en 3 [.ref l1, .ref x19]) [] (n, sl, f) (mi_Kc d 46 201 [some (.ref l1), some (.int l2), some (.int l3), some (.int l4), some (.int l5)] [.int l5, .ref x14] Q)) : mi_W (d + 1) 46 187 [some (.ref l1), some (.int l2), some (.int l3), some (.int l4), some (.int l5)] [] (n, sl, f) Q := by
  refine w_aload_n cd_46_187 rfl ?_
  refine w_getfield cd_46_188 (show mt_f 3 19 = some (3, 1) by decide +kernel) h7 h8 h10 ?_
  refine w_getfield cd_46_191 (show mt_f 3 128 = some (2, 4) by decide +kernel) h12 h13 h15 ?_
  refine w_iload cd_46_194 rfl ?_
  refine w_aload_n cd_46_196 rfl ?_
  refine w_aload_n cd_46_197 rfl ?_
  refine w_getfield cd_46_198 (show mt_f 3 44 = some (3, 5) by decide +kernel) h17 h18 h20 ?_
  exact w_invokevirtual cd_46_201 (show mt_m 3 131 = some (43, 0) by decide +kernel) (rest := [.int l5, .ref x14]) rfl (as := [.ref l1, .ref x19]) rfl h22 (Or.inl h23) ⟨Nat.le_of_ble_eq_true rfl, Nat.le_of_ble_eq_true rfl, Nat.le_of_ble_eq_true rfl⟩ h24
theorem b_46_204 {d : Nat} {Q : (Option Value ⊕ Nat) → mi_H → Prop} (n sl : Nat) (f : Nat → mi_C) {l1 : Nat} {l2 : Int32} {l3 : Int32} {l4 : Int32} {l5 : Int32} {s6 : Int32} {s7 : Int32} {s8 : Nat} (m9 i9 : Nat) (g9 : Nat → Int32) (h10 : f s8 = .inl (0, m9, .inl g9)) (h11 : s8 < n) (h12 : mi_ix s7 m9 i9) (h13 : mi_W d 46 278 [some (.ref l1), some (.int l2), some (.int l3), some (.int l4), some (.int l5)] [] (n, sl, (va_up f s8 (.inl (0, m9, .inl (upd g9 i9 s6))))) Q) : mi_W d 46 204 [some (.ref l1), some (.int l2), some (.int l3), some (.int l4), some (.int l5)] [.int s6, .int s7, .ref s8] (n, sl, f) Q := by
  refine w_iastore cd_46_204 h10 h11 h12 ?_
  exact w_goto cd_46_205 (by decide) h13
theorem b_46_208 {d : Nat} {Q : (Option Value ⊕ Nat) → mi_H → Prop} (n sl : Nat) (f : Nat → mi_C) {l1 : Nat} {l2 : Int32} {l3 : Int32} {l4 : Int32} {l5 : Int32} (h6 : l3 = 12 → mi_W d 46 218 [some (.ref l1), some (.int l2), some (.int l3), some (.int l4), some (.int l5)] [] (n, sl, f) Q) (h7 : ¬ (l3 = 12) → mi_W d 46 214 [some (.ref l1), some (.int l2), some (.int l3), some (.int l4), some (.int l5)] [] (n, sl, f) Q) : mi_W d 46 208 [some (.ref l1), some (.int l2), some (.int l3), some (.int l4), some (.int l5)] [] (n, sl, f) Q := by
  refine w_iload_n cd_46_208 rfl ?_
  refine w_bipush (v := 12) cd_46_209 (by decide) ?_
  exact w_if_icmpeq cd_46_211 (by decide) h6 h7
theorem b_46_214 {d : Nat} {Q : (Option Value ⊕ Nat) → mi_H → Prop} (n sl : Nat) (f : Nat → mi_C) {l1 : Nat} {l2 : Int32} {l3 : Int32} {l4 : Int32} {l5 : Int32} (h6 : l4 = (0 : Int32) → mi_W d 46 238 [some (.ref l1), some (.int l2), some (.int l3), some (.int l4), some (.int l5)] [] (n, sl, f) Q) (h7 : ¬ (l4 = (0 : Int32)) → mi_W d 46 218 [some (.ref l1), some (.int l2), some (.int l3), some (.int l4), some (.int l5)] [] (n, sl, f) Q) : mi_W d 46 214 [some (.ref l1), some (.int l2), some (.int l3), some (.int l4), some (.int l5)] [] (n, sl, f) Q := by
  refine w_iload_n cd_46_214 rfl ?_
  exact w_ifeq cd_46_215 (by decide) h6 h7
theorem b_46_218 {d : Nat} {Q : (Option Value ⊕ Nat) → mi_H → Prop} (n sl : Nat) (f : Nat → mi_C) {l1 : Nat} {l2 : Int32} {l3 : Int32} {l4 : Int32} {l5 : Int32} {fs6 : List Value} {x9 : Nat} {fs11 : List Value} {x14 : Nat} {fs16 : List Value} (h7 : f l1 = .inr (3, fs6)) (h8 : l1 < n) (h10 : fs6[1]? = some (.ref x9)) (h12 : f x9 = .inr (2, fs11)) (h13 : x9 < n) (h15 : fs11[1]? = some (.ref x14)) (h17 : f l1 = .inr (3, fs16)) (h18 : l1 < n) (h19 : mi_W d 46 0 (mi_en 5 [.ref l1, .int (l2 + 1)]) [] (n, sl, f) (mi_Kc d 46 231 [some (.ref l1), some (.int l2), some (.int l3), some (.int l4), some (.int l5)] [.int l5, .ref x14] Q)) : mi_W (d + 1) 46 218 [some (.ref l1), some (.int l2), some (.int l3), some (.int l4), some (.int l5)] [] (n, sl, f) Q := by
  refine w_aload_n cd_46_218 rfl ?_
  refine w_getfield cd_46_219 (show mt_f 3 19 = some (3, 1) by decide +kernel) h7 h8 h10 ?_
  refine w_getfield cd_46_222 (show mt_f 3 109 = some (2, 1) by decide +kernel) h12 h13 h15 ?_
  refine w_iload cd_46_225 rfl ?_
  refine w_aload_n cd_46_227 rfl ?_
  refine w_iload_n cd_46_228 rfl ?_
  refine w_iconst (v := 1) cd_46_229 (by decide) ?_
  refine w_iadd cd_46_230 ?_
  exact w_invokevirtual cd_46_231 (show mt_m 3 113 = some (46, 0) by decide +kernel) (rest := [.int l5, .ref x14]) rfl (as := [.ref l1, .int (l2 + 1)]) rfl h17 (Or.inl h18) ⟨Nat.le_of_ble_eq_true rfl, Nat.le_of_ble_eq_true rfl, Nat.le_of_ble_eq_true rfl⟩ h19
theorem b_46_234 {d : Nat} {Q : (Option Value ⊕ Nat) → mi_H → Prop} (n sl : Nat) (f : Nat → mi_C) {l1 : Nat} {l2 : Int32} {l3 : Int32} {l4 : Int32} {l5 : Int32} {s6 : Int32} {s7 : Int32} {s8 : Nat} (m9 i9 : Nat) (g9 : Nat → Int32) (h10 : f s8 = .inl (0, m9, .inl g9)) (h11 : s8 < n) (h12 : mi_ix s7 m9 i9) (h13 : mi_W d 46 278 [some (.ref l1), some (.int l2), some (.int l3), some (.int l4), some (.int l5)] [] (n, sl, (va_up f s8 (.inl (0, m9, .inl (upd g9 i9 s6))))) Q) : mi_W d 46 234 [some (.ref l1), some (.int l2), some (.int l3), some (.int l4), some (.int l5)] [.int s6, .int s7, .ref s8] (n, sl, f) Q := by
  refine w_iastore cd_46_234 h10 h11 h12 ?_
  exact w_goto cd_46_235 (by decide) h13
theorem b_46_238 {d : Nat} {Q : (Option Value ⊕ Nat) → mi_H → Prop} (n sl : Nat) (f : Nat → mi_C) {l1 : Nat} {l2 : Int32} {l3 : Int32} {l4 : Int32} {l5 : Int32} (h6 : ¬ l3 = 17 → mi_W d 46 278 [some (.ref l1), some (.int l2), some (.int l3), some (.int l4), some (.int l5)] [] (n, sl, f) Q) (h7 : ¬ (¬ l3 = 17) → mi_W d 46 244 [some (.ref l1), some (.int l2), some (.int l3), some (.int l4), some (.int l5)] [] (n, sl, f) Q) : mi_W d 46 238 [some (.ref l1), some (.int l2), some (.int l3), some (.int l4), some (.int l5)] [] (n, sl, f) Q := by
  refine w_iload_n cd_46_238 rfl ?_
  refine w_bipush (v := 17) cd_46_239 (by decide) ?_
  exact w_if_icmpne cd_46_241 (by decide) h6 h7
theorem b_46_244 {d : Nat} {Q : (Option Value ⊕ Nat) → mi_H → Prop} (n sl : Nat) (f : Nat → mi_C) {l1 : Nat} {l2 : Int32} {l3 : Int32} {l4 : Int32} {l5 : Int32} {fs6 : List Value} {x9 : Nat} {fs11 : List Value} {x14 : Nat} {fs16 : List Value} (h7 : f l1 = .inr (3, fs6)) (h8 : l1 < n) (h10 : fs6[1]? = some (.ref x9)) (h12 : f x9 = .inr (2, fs11)) (h13 : x9 < n) (h15 : fs11[1]? = some (.ref x14)) (h17 : f l1 = .inr (3, fs16)) (h18 : l1 < n) (h19 : mi_W d 48 0 (mi_en 5 [.ref l1, .int (l2 + 1)]) [] (n, sl, f) (mi_Kc d 46 257 [some (.ref l1), some (.int l2), some (.int l3), some (.int l4), some (.int l5)] [.int l5, .ref x14] Q)) : mi_W (d + 1) 46 244 [some (.ref l1), some (.int l2), some (.int l3), some (.int l4), some (.int l5)] [] (n, sl, f) Q := by
  refine w_aload_n cd_46_244 rfl ?_
  refine w_getfield cd_46_245 (show mt_f 3 19 = some (3, 1) by decide +kernel) h7 h8 h10 ?_
  refine w_getfield cd_46_248 (show mt_f 3 109 = some (2, 1) by decide +kernel) h12 h13 h15 ?_
  refine w_iload cd_46_251 rfl ?_
  refine w_aload_n cd_46_253 rfl ?_
  refine w_iload_n cd_46_254 rfl ?_
  refine w_iconst (v := 1) cd_46_255 (by decide) ?_
  refine w_iadd cd_46_256 ?_
  exact w_invokevirtual cd_46_257 (show mt_m 3 135 = some (48, 0) by decide +kernel) (rest := [.int l5, .ref x14]) rfl (as := [.ref l1, .int (l2 + 1)]) rfl h17 (Or.inl h18) ⟨Nat.le_of_ble_eq_true rfl, Nat.le_of_ble_eq_true rfl, Nat.le_of_ble_eq_true rfl⟩ h19
theorem b_46_260 {d : Nat} {Q : (Option Value ⊕ Nat) → mi_H → Prop} (n sl : Nat) (f : Nat → mi_C) {l1 : Nat} {l2 : Int32} {l3 : Int32} {l4 : Int32} {l5 : Int32} {s6 : Int32} {s7 : Int32} {s8 : Nat} (m9 i9 : Nat) (g9 : Nat → Int32) {fs13 : List Value} {x16 : Nat} {fs18 : List Value} {x21 : Nat} {fs23 : List Value} (h10 : f s8 = .inl (0, m9, .inl g9)) (h11 : s8 < n) (h12 : mi_ix s7 m9 i9) (h14 : (va_up f s8 (.inl (0, m9, .inl (upd g9 i9 s6)))) l1 = .inr (3, fs13)) (h15 : l1 < n) (h17 : fs13[1]? = some (.ref x16)) (h19 : (va_up f s8 (.inl (0, m9, .inl (upd g9 i9 s6)))) x16 = .inr (2, fs18)) (h20 : x16 < n) (h22 : fs18[2]? = some (.ref x21)) (h24 : (va_up f s8 (.inl (0, m9, .inl (upd g9 i9 s6)))) l1 = .inr (3, fs23)) (h25 : l1 < n) (h26 : mi_W d 46 0 (mi_en 5 [.ref l1, .int (l2 + 1)]) [] (n, sl, (va_up f s8 (.inl (0, m9, .inl (upd g9 i9 s6))))) (mi_Kc d 46 274 [some (.ref l1), some (.int l2), some (.int l3), some (.int l4), some (.int l5)] [.int l5, .ref x21] Q)) : mi_W (d + 1) 46 260 [some (.ref l1), some (.int l2), some (.int l3), some (.int l4), some (.int l5)] [.int s6, .int s7, .ref s8] (n, sl, f) Q := by
  refine w_iastore cd_46_260 h10 h11 h12 ?_
  refine w_aload_n cd_46_261 rfl ?_
  refine w_getfield cd_46_262 (show mt_f 3 19 = some (3, 1) by decide +kernel) h14 h15 h17 ?_
  refine w_getfield cd_46_265 (show mt_f 3 138 = some (2, 2) by decide +kernel) h19 h20 h22 ?_
  refine w_iload cd_46_268 rfl ?_
  refine w_aload_n cd_46_270 rfl ?_
  refine w_iload_n cd_46_271 rfl ?_
  refine w_iconst (v := 1) cd_46_272 (by decide) ?_
  refine w_iadd cd_46_273 ?_
  exact w_invokevirtual cd_46_274 (show mt_m 3 113 = some (46, 0) by decide +kernel) (rest := [.int l5, .ref x21]) rfl (as := [.ref l1, .int (l2 + 1)]) rfl h24 (Or.inl h25) ⟨Nat.le_of_ble_eq_true rfl, Nat.le_of_ble_eq_true rfl, Nat.le_of_ble_eq_true rfl⟩ h26
theorem b_46_277 {d : Nat} {Q : (Option Value ⊕ Nat) → mi_H → Prop} (n sl : Nat) (f : Nat → mi_C) {l1 : Nat} {l2 : Int32} {l3 : Int32} {l4 : Int32} {l5 : Int32} {s6 : Int32} {s7 : Int32} {s8 : Nat} (m9 i9 : Nat) (g9 : Nat → Int32) (h10 : f s8 = .inl (0, m9, .inl g9)) (h11 : s8 < n) (h12 : mi_ix s7 m9 i9) (h13 : mi_W d 46 278 [some (.ref l1), some (.int l2), some (.int l3), some (.int l4), some (.int l5)] [] (n, sl, (va_up f s8 (.inl (0, m9, .inl (upd g9 i9 s6))))) Q) : mi_W d 46 277 [some (.ref l1), some (.int l2), some (.int l3), some (.int l4), some (.int l5)] [.int s6, .int s7, .ref s8] (n, sl, f) Q := by
  refine w_iastore cd_46_277 h10 h11 h12 ?_
  exact h13
theorem b_46_278 {d : Nat} {Q : (Option Value ⊕ Nat) → mi_H → Prop} (n sl : Nat) (f : Nat → mi_C) {l1 : Nat} {l2 : Int32} {l3 : Int32} {l4 : Int32} {l5 : Int32} (h6 : ¬ l4 = (0 : Int32) → mi_W d 46 288 [some (.ref l1), some (.int l2), some (.int l3), some (.int l4), some (.int l5)] [] (n, sl, f) Q) (h7 : ¬ (¬ l4 = (0 : Int32)) → mi_W d 46 282 [some (.ref l1), some (.int l2), some (.int l3), some (.int l4), some (.int l5)] [] (n, sl, f) Q) : mi_W d 46 278 [some (.ref l1), some (.int l2), some (.int l3), some (.int l4), some (.int l5)] [] (n, sl, f) Q := by
  refine w_iload_n cd_46_278 rfl ?_
  exact w_ifne cd_46_279 (by decide) h6 h7
theorem b_46_282 {d : Nat} {Q : (Option Value ⊕ Nat) → mi_H → Prop} (n sl : Nat) (f : Nat → mi_C) {l1 : Nat} {l2 : Int32} {l3 : Int32} {l4 : Int32} {l5 : Int32} (h6 : ¬ l3 = 17 → mi_W d 46 305 [some (.ref l1), some (.int l2), some (.int l3), some (.int l4), some (.int l5)] [] (n, sl, f) Q) (h7 : ¬ (¬ l3 = 17) → mi_W d 46 288 [some (.ref l1), some (.int l2), some (.int l3), some (.int l4), some (.int l5)] [] (n, sl, f) Q) : mi_W d 46 282 [some (.ref l1), some (.int l2), some (.int l3), some (.int l4), some (.int l5)] [] (n, sl, f) Q := by
  refine w_iload_n cd_46_282 rfl ?_
  refine w_bipush (v := 17) cd_46_283 (by decide) ?_
  exact w_if_icmpne cd_46_285 (by decide) h6 h7
theorem b_46_288 {d : Nat} {Q : (Option Value ⊕ Nat) → mi_H → Prop} (n sl : Nat) (f : Nat → mi_C) {l1 : Nat} {l2 : Int32} {l3 : Int32} {l4 : Int32} {l5 : Int32} {fs6 : List Value} {x9 : Nat} {fs11 : List Value} {x14 : Nat} {fs16 : List Value} (h7 : f l1 = .inr (3, fs6)) (h8 : l1 < n) (h10 : fs6[1]? = some (.ref x9)) (h12 : f x9 = .inr (2, fs11)) (h13 : x9 < n) (h15 : fs11[3]? = some (.ref x14)) (h17 : f l1 = .inr (3, fs16)) (h18 : l1 < n) (h19 : mi_W d 46 0 (mi_en 5 [.ref l1, .int (l2 + 1)]) [] (n, sl, f) (mi_Kc d 46 301 [some (.ref l1), some (.int l2), some (.int l3), some (.int l4), some (.int l5)] [.int l5, .ref x14] Q)) : mi_W (d + 1) 46 288 [some (.ref l1), some (.int l2), some (.int l3), some (.int l4), some (.int l5)] [] (n, sl, f) Q := by
  refine w_aload_n cd_46_288 rfl ?_
  refine w_getfield cd_46_289 (show mt_f 3 19 = some (3, 1) by decide +kernel) h7 h8 h10 ?_
  refine w_getfield cd_46_292 (show mt_f 3 141 = some (2, 3) by decide +kernel) h12 h13 h15 ?_
  refine w_iload cd_46_295 rfl ?_
  refine w_aload_n cd_46_297 rfl ?_
  refine w_iload_n cd_46_298 rfl ?_
  refine w_iconst (v := 1) cd_46_299 (by decide) ?_
  refine w_iadd cd_46_300 ?_
  exact w_invokevirtual cd_46_301 (show mt_m 3 113 = some (46, 0) by decide +kernel) (rest := [.int l5, .ref x14]) rfl (as := [.ref l1, .int (l2 + 1)]) rfl h17 (Or.inl h18) ⟨Nat.le_of_ble_eq_true rfl, Nat.le_of_ble_eq_true rfl, Nat.le_of_ble_eq_true rfl⟩ h19
theorem b_46_304 {d : Nat} {Q : (Option Value ⊕ Nat) → mi_H → Prop} (n sl : Nat) (f : Nat → mi_C) {l1 : Nat} {l2 : Int32} {l3 : Int32} {l4 : Int32} {l5 : Int32} {s6 : Int32} {s7 : Int32} {s8 : Nat} (m9 i9 : Nat) (g9 : Nat → Int32) (h10 : f s8 = .inl (0, m9, .inl g9)) (h11 : s8 < n) (h12 : mi_ix s7 m9 i9) (h13 : mi_W d 46 305 [some (.ref l1), some (.int l2), some (.int l3), some (.int l4), some (.int l5)] [] (n, sl, (va_up f s8 (.inl (0, m9, .inl (upd g9 i9 s6))))) Q) : mi_W d 46 304 [some (.ref l1), some (.int l2), some (.int l3), some (.int l4), some (.int l5)] [.int s6, .int s7, .ref s8] (n, sl, f) Q := by
  refine w_iastore cd_46_304 h10 h11 h12 ?_
  exact h13
theorem b_46_305 {d : Nat} {Q : (Option Value ⊕ Nat) → mi_H → Prop} (n sl : Nat) (f : Nat → mi_C) {l1 : Nat} {l2 : Int32} {l3 : Int32} {l4 : Int32} {l5 : Int32} {fs6 : List Value} {x9 : Nat} {fs11 : List Value} {x14 : Nat} {fs16 : List Value} {x19 : Nat} {fs21 : List Value} {x24 : Int32} (m26 i26 : Nat) (g26 : Nat → Int32) (h7 : f l1 = .inr (3, fs6)) (h8 : l1 < n) (h10 : fs6[1]? = some (.ref x9)) (h12 : f x9 = .inr (2, fs11)) (h13 : x9 < n) (h15 : fs11[7]? = some (.ref x14)) (h17 : f l1 = .inr (3, fs16)) (h18 : l1 < n) (h20 : fs16[1]? = some (.ref x19)) (h22 : f x19 = .inr (2, fs21)) (h23 : x19 < n) (h25 : fs21[11]? = some (.int x24)) (h27 : f x14 = .inl (0, m26, .inl g26)) (h28 : x14 < n) (h29 : mi_ix l5 m26 i26) (h30 : Q (.inl (some (.int l5))) (n, sl, (va_up f x14 (.inl (0, m26, .inl (upd g26 i26 x24)))))) : mi_W d 46 305 [some (.ref l1), some (.int l2), some (.int l3), some (.int l4), some (.int l5)] [] (n, sl, f) Q := by
  refine w_aload_n cd_46_305 rfl ?_
  refine w_getfield cd_46_306 (show mt_f 3 19 = some (3, 1) by decide +kernel) h7 h8 h10 ?_
  refine w_getfield cd_46_309 (show mt_f 3 144 = some (2, 7) by decide +kernel) h12 h13 h15 ?_
  refine w_iload cd_46_312 rfl ?_
  refine w_aload_n cd_46_314 rfl ?_
  refine w_getfield cd_46_315 (show mt_f 3 19 = some (3, 1) by decide +kernel) h17 h18 h20 ?_
  refine w_getfield cd_46_318 (show mt_f 3 87 = some (2, 11) by decide +kernel) h22 h23 h25 ?_
  refine w_iastore cd_46_321 h27 h28 h29 ?_
  refine w_iload cd_46_322 rfl ?_
  exact w_ireturn_i cd_46_324 (by decide +kernel) h30
/-! MarloweHost$Reader.readChoiceName()I -/
set_option maxRecDepth 100000 in
theorem mq_47 : mt_q 47 = my_47 := rfl
set_option maxRecDepth 100000 in
theorem ci_47 : mt_inc 0 my_47.cd = true := by decide +kernel
theorem cd_47_0 : mt_cd 47 0 = some (.aload_n 0) := mt_cd_of (q := (0, .aload_n 0, 1)) mq_47 ci_47 (List.mem_of_getElem? (i := 0) rfl)
theorem cd_47_1 : mt_cd 47 1 = some (.aload_n 0) := mt_cd_of (q := (1, .aload_n 0, 1)) mq_47 ci_47 (List.mem_of_getElem? (i := 1) rfl)
theorem cd_47_2 : mt_cd 47 2 = some (.getfield 15) := mt_cd_of (q := (2, .getfield 15, 3)) mq_47 ci_47 (List.mem_of_getElem? (i := 2) rfl)
theorem cd_47_5 : mt_cd 47 5 = some (.getfield 67) := mt_cd_of (q := (5, .getfield 67, 3)) mq_47 ci_47 (List.mem_of_getElem? (i := 3) rfl)
theorem cd_47_8 : mt_cd 47 8 = some (.bipush 38) := mt_cd_of (q := (8, .bipush 38, 2)) mq_47 ci_47 (List.mem_of_getElem? (i := 4) rfl)
theorem cd_47_10 : mt_cd 47 10 = some (.if_icmp .ne 7) := mt_cd_of (q := (10, .if_icmp .ne 7, 3)) mq_47 ci_47 (List.mem_of_getElem? (i := 5) rfl)
theorem cd_47_13 : mt_cd 47 13 = some (.iconst 1) := mt_cd_of (q := (13, .iconst 1, 1)) mq_47 ci_47 (List.mem_of_getElem? (i := 6) rfl)
theorem cd_47_14 : mt_cd 47 14 = some (.goto 4) := mt_cd_of (q := (14, .goto 4, 3)) mq_47 ci_47 (List.mem_of_getElem? (i := 7) rfl)
theorem cd_47_17 : mt_cd 47 17 = some (.iconst 0) := mt_cd_of (q := (17, .iconst 0, 1)) mq_47 ci_47 (List.mem_of_getElem? (i := 8) rfl)
theorem cd_47_18 : mt_cd 47 18 = some (.invokevirtual 70) := mt_cd_of (q := (18, .invokevirtual 70, 3)) mq_47 ci_47 (List.mem_of_getElem? (i := 9) rfl)
theorem cd_47_21 : mt_cd 47 21 = some (.aload_n 0) := mt_cd_of (q := (21, .aload_n 0, 1)) mq_47 ci_47 (List.mem_of_getElem? (i := 10) rfl)
theorem cd_47_22 : mt_cd 47 22 = some (.getfield 15) := mt_cd_of (q := (22, .getfield 15, 3)) mq_47 ci_47 (List.mem_of_getElem? (i := 11) rfl)
theorem cd_47_25 : mt_cd 47 25 = some (.getfield 74) := mt_cd_of (q := (25, .getfield 74, 3)) mq_47 ci_47 (List.mem_of_getElem? (i := 12) rfl)
theorem cd_47_28 : mt_cd 47 28 = some (.istore_n 1) := mt_cd_of (q := (28, .istore_n 1, 1)) mq_47 ci_47 (List.mem_of_getElem? (i := 13) rfl)
theorem cd_47_29 : mt_cd 47 29 = some (.aload_n 0) := mt_cd_of (q := (29, .aload_n 0, 1)) mq_47 ci_47 (List.mem_of_getElem? (i := 14) rfl)
theorem cd_47_30 : mt_cd 47 30 = some (.getfield 15) := mt_cd_of (q := (30, .getfield 15, 3)) mq_47 ci_47 (List.mem_of_getElem? (i := 15) rfl)
theorem cd_47_33 : mt_cd 47 33 = some (.getfield 170) := mt_cd_of (q := (33, .getfield 170, 3)) mq_47 ci_47 (List.mem_of_getElem? (i := 16) rfl)
theorem cd_47_36 : mt_cd 47 36 = some (.istore_n 2) := mt_cd_of (q := (36, .istore_n 2, 1)) mq_47 ci_47 (List.mem_of_getElem? (i := 17) rfl)
theorem cd_47_37 : mt_cd 47 37 = some (.aload_n 0) := mt_cd_of (q := (37, .aload_n 0, 1)) mq_47 ci_47 (List.mem_of_getElem? (i := 18) rfl)
theorem cd_47_38 : mt_cd 47 38 = some (.getfield 15) := mt_cd_of (q := (38, .getfield 15, 3)) mq_47 ci_47 (List.mem_of_getElem? (i := 19) rfl)
theorem cd_47_41 : mt_cd 47 41 = some (.invokevirtual 84) := mt_cd_of (q := (41, .invokevirtual 84, 3)) mq_47 ci_47 (List.mem_of_getElem? (i := 20) rfl)
theorem cd_47_44 : mt_cd 47 44 = some (.aload_n 0) := mt_cd_of (q := (44, .aload_n 0, 1)) mq_47 ci_47 (List.mem_of_getElem? (i := 21) rfl)
theorem cd_47_45 : mt_cd 47 45 = some (.aload_n 0) := mt_cd_of (q := (45, .aload_n 0, 1)) mq_47 ci_47 (List.mem_of_getElem? (i := 22) rfl)
theorem cd_47_46 : mt_cd 47 46 = some (.getfield 34) := mt_cd_of (q := (46, .getfield 34, 3)) mq_47 ci_47 (List.mem_of_getElem? (i := 23) rfl)
theorem cd_47_49 : mt_cd 47 49 = some (.invokevirtual 131) := mt_cd_of (q := (49, .invokevirtual 131, 3)) mq_47 ci_47 (List.mem_of_getElem? (i := 24) rfl)
theorem cd_47_52 : mt_cd 47 52 = some (.istore_n 3) := mt_cd_of (q := (52, .istore_n 3, 1)) mq_47 ci_47 (List.mem_of_getElem? (i := 25) rfl)
theorem cd_47_53 : mt_cd 47 53 = some (.aload_n 0) := mt_cd_of (q := (53, .aload_n 0, 1)) mq_47 ci_47 (List.mem_of_getElem? (i := 26) rfl)
theorem cd_47_54 : mt_cd 47 54 = some (.getfield 41) := mt_cd_of (q := (54, .getfield 41, 3)) mq_47 ci_47 (List.mem_of_getElem? (i := 27) rfl)
theorem cd_47_57 : mt_cd 47 57 = some (.iload_n 1) := mt_cd_of (q := (57, .iload_n 1, 1)) mq_47 ci_47 (List.mem_of_getElem? (i := 28) rfl)
theorem cd_47_58 : mt_cd 47 58 = some (.iload_n 2) := mt_cd_of (q := (58, .iload_n 2, 1)) mq_47 ci_47 (List.mem_of_getElem? (i := 29) rfl)
theorem cd_47_59 : mt_cd 47 59 = some (.iload_n 3) := mt_cd_of (q := (59, .iload_n 3, 1)) mq_47 ci_47 (List.mem_of_getElem? (i := 30) rfl)
theorem cd_47_60 : mt_cd 47 60 = some (.invokevirtual 173) := mt_cd_of (q := (60, .invokevirtual 173, 3)) mq_47 ci_47 (List.mem_of_getElem? (i := 31) rfl)
theorem cd_47_63 : mt_cd 47 63 = some (.istore 4) := mt_cd_of (q := (63, .istore 4, 2)) mq_47 ci_47 (List.mem_of_getElem? (i := 32) rfl)
theorem cd_47_65 : mt_cd 47 65 = some (.aload_n 0) := mt_cd_of (q := (65, .aload_n 0, 1)) mq_47 ci_47 (List.mem_of_getElem? (i := 33) rfl)
theorem cd_47_66 : mt_cd 47 66 = some (.iload_n 1) := mt_cd_of (q := (66, .iload_n 1, 1)) mq_47 ci_47 (List.mem_of_getElem? (i := 34) rfl)
theorem cd_47_67 : mt_cd 47 67 = some (.iload 4) := mt_cd_of (q := (67, .iload 4, 2)) mq_47 ci_47 (List.mem_of_getElem? (i := 35) rfl)
theorem cd_47_69 : mt_cd 47 69 = some (.iconst (-1)) := mt_cd_of (q := (69, .iconst (-1), 1)) mq_47 ci_47 (List.mem_of_getElem? (i := 36) rfl)
theorem cd_47_70 : mt_cd 47 70 = some (.if_icmp .eq 7) := mt_cd_of (q := (70, .if_icmp .eq 7, 3)) mq_47 ci_47 (List.mem_of_getElem? (i := 37) rfl)
theorem cd_47_73 : mt_cd 47 73 = some (.iconst 1) := mt_cd_of (q := (73, .iconst 1, 1)) mq_47 ci_47 (List.mem_of_getElem? (i := 38) rfl)
theorem cd_47_74 : mt_cd 47 74 = some (.goto 4) := mt_cd_of (q := (74, .goto 4, 3)) mq_47 ci_47 (List.mem_of_getElem? (i := 39) rfl)
theorem cd_47_77 : mt_cd 47 77 = some (.iconst 0) := mt_cd_of (q := (77, .iconst 0, 1)) mq_47 ci_47 (List.mem_of_getElem? (i := 40) rfl)
theorem cd_47_78 : mt_cd 47 78 = some (.invokevirtual 59) := mt_cd_of (q := (78, .invokevirtual 59, 3)) mq_47 ci_47 (List.mem_of_getElem? (i := 41) rfl)
theorem cd_47_81 : mt_cd 47 81 = some (.iload 4) := mt_cd_of (q := (81, .iload 4, 2)) mq_47 ci_47 (List.mem_of_getElem? (i := 42) rfl)
theorem cd_47_83 : mt_cd 47 83 = some (.ireturn) := mt_cd_of (q := (83, .ireturn, 1)) mq_47 ci_47 (List.mem_of_getElem? (i := 43) rfl)
theorem b_47_0 {d : Nat} {Q : (Option Value ⊕ Nat) → mi_H → Prop} (n sl : Nat) (f : Nat → mi_C) {l1 : Nat} {o2 : Option Value} {o3 : Option Value} {o4 : Option Value} {o5 : Option Value} {fs6 : List Value} {x9 : Nat} {fs11 : List Value} {x14 : Int32} (h7 : f l1 = .inr (3, fs6)) (h8 : l1 < n) (h10 : fs6[0]? = some (.ref x9)) (h12 : f x9 = .inr (1, fs11)) (h13 : x9 < n) (h15 : fs11[2]? = some (.int x14)) (h16 : ¬ x14 = 38 → mi_W d 47 17 [some (.ref l1), o2, o3, o4, o5] [.ref l1] (n, sl, f) Q) (h17 : ¬ (¬ x14 = 38) → mi_W d 47 13 [some (.ref l1), o2, o3, o4, o5] [.ref l1] (n, sl, f) Q) : mi_W d 47 0 [some (.ref l1), o2, o3, o4, o5] [] (n, sl, f) Q := by
  refine w_aload_n cd_47_0 rfl ?_
  refine w_aload_n cd_47_1 rfl ?_
  refine w_getfield cd_47_2 (show mt_f 3 15 = some (3, 0) by decide +kernel) h7 h8 h10 ?_
  refine w_getfield cd_47_5 (show mt_f 3 67 = some (1, 2) by decide +kernel) h12 h13 h15 ?_
  refine w_bipush (v := 38) cd_47_8 (by decide) ?_
  exact w_if_icmpne cd_47_10 (by decide) h16 h17
theorem b_47_13 {d : Nat} {Q : (Option Value ⊕ Nat) → mi_H → Prop} (n sl : Nat) (f : Nat → mi_C) {l1 : Nat} {o2 : Option Value} {o3 : Option Value} {o4 : Option Value} {o5 : Option Value} {s6 : Nat} (h7 : mi_W d 47 18 [some (.ref l1), o2, o3, o4, o5] [.int 1, .ref s6] (n, sl, f) Q) : mi_W d 47 13 [some (.ref l1), o2, o3, o4, o5] [.ref s6] (n, sl, f) Q := by
  refine w_iconst (v := 1) cd_47_13 (by decide) ?_
  exact w_goto cd_47_14 (by decide) h7
theorem b_47_17 {d : Nat} {Q : (Option Value ⊕ Nat) → mi_H → Prop} (n sl : Nat) (f : Nat → mi_C) {l1 : Nat} {o2 : Option Value} {o3 : Option Value} {o4 : Option Value} {o5 : Option Value} {s6 : Nat} (h7 : mi_W d 47 18 [some (.ref l1), o2, o3, o4, o5] [.int 0, .ref s6] (n, sl, f) Q) : mi_W d 47 17 [some (.ref l1), o2, o3, o4, o5] [.ref s6] (n, sl, f) Q := by
  refine w_iconst (v := 0) cd_47_17 (by decide) ?_
  exact h7
theorem b_47_18 {d : Nat} {Q : (Option Value ⊕ Nat) → mi_H → Prop} (n sl : Nat) (f : Nat → mi_C) {l1 : Nat} {o2 : Option Value} {o3 : Option Value} {o4 : Option Value} {o5 : Option Value} {s6 : Int32} {s7 : Nat} {fs8 : List Value} (h9 : f s7 = .inr (3, fs8)) (h10 : s7 < n) (h11 : mi_W d 38 0 (mi_en 2 [.ref s7, .int s6]) [] (n, sl, f) (mi_Kc d 47 18 [some (.ref l1), o2, o3, o4, o5] [] Q)) : mi_W (d + 1) 47 18 [some (.ref l1), o2, o3, o4, o5] [.int s6, .ref s7] (n, sl, f) Q := by
  exact w_invokevirtual cd_47_18 (show mt_m 3 70 = some (38, 0) by decide +kernel) (rest := []) rfl (as := [.ref s7, .int s6]) rfl h9 (Or.inl h10) ⟨Nat.le_of_ble_eq_true rfl, Nat.le_of_ble_eq_true rfl, Nat.le_of_ble_eq_true rfl⟩ h11
theorem b_47_21 {d : Nat} {Q : (Option Value ⊕ Nat) → mi_H → Prop} (n sl : Nat) (f : Nat → mi_C) {l1 : Nat} {o2 : Option Value} {o3 : Option Value} {o4 : Option Value} {o5 : Option Value} {fs6 : List Value} {x9 : Nat} {fs11 : List Value} {x14 : Int32} {fs16 : List Value} {x19 : Nat} {fs21 : List Value} {x24 : Int32} {fs26 : List Value} {x29 : Nat} {fs31 : List Value} (h7 : f l1 = .inr (3, fs6)) (h8 : l1 < n) (h10 : fs6[0]? = some (.ref x9)) (h12 : f x9 = .inr (1, fs11)) (h13 : x9 < n) (h15 : fs11[3]? = some (.int x14)) (h17 : f l1 = .inr (3, fs16)) (h18 : l1 < n) (h20 : fs16[0]? = some (.ref x19)) (h22 : f x19 = .inr (1, fs21)) (h23 : x19 < n) (h25 : fs21[4]? = some (.int x24)) (h27 : f l1 = .inr (3, fs26)) (h28 : l1 < n) (h30 : fs26[0]? = some (.ref x29)) (h32 : f x29 = .inr (1, fs31)) (h33 : x29 < n) (h34 : mi_W d 24 0 (mi_en 2 [.ref x29]) [] (n, sl, f) (mi_Kc d 47 41 [some (.ref l1), some (.int x14), some (.int x24), o4, o5] [] Q)) : mi_W (d + 1) 47 21 [some (.ref l1), o2, o3, o4, o5] [] (n, sl, f) Q := by
  refine w_aload_n cd_47_21 rfl ?_
  refine w_getfield cd_47_22 (show mt_f 3 15 = some (3, 0) by decide +kernel) h7 h8 h10 ?_
  refine w_getfield cd_47_25 (show mt_f 3 74 = some (1, 3) by decide +kernel) h12 h13 h15 ?_
  refine w_istore_n (ls' := [some (.ref l1), some (.int x14), o3, o4, o5]) cd_47_28 (Nat.le_of_ble_eq_true rfl) rfl ?_
  refine w_aload_n cd_47_29 rfl ?_
  refine w_getfield cd_47_30 (show mt_f 3 15 = some (3, 0) by decide +kernel) h17 h18 h20 ?_
  refine w_getfield cd_47_33 (show mt_f 3 170 = some (1, 4) by decide +kernel) h22 h23 h25 ?_
  refine w_istore_n (ls' := [some (.ref l1), some (.int x14), some (.int x24), o4, o5]) cd_47_36 (Nat.le_of_ble_eq_true rfl) rfl ?_
  refine w_aload_n cd_47_37 rfl ?_
  refine w_getfield cd_47_38 (show mt_f 3 15 = some (3, 0) by decide +kernel) h27 h28 h30 ?_
  exact w_invokevirtual cd_47_41 (show mt_m 3 84 = some (24, 0) by decide +kernel) (rest := []) rfl (as := [.ref x29]) rfl h32 (Or.inl h33) ⟨Nat.le_of_ble_eq_true rfl, Nat.le_of_ble_eq_true rfl, Nat.le_of_ble_eq_true rfl⟩ h34
theorem b_47_44 {d : Nat} {Q : (Option Value ⊕ Nat) → mi_H → Prop} (n sl : Nat) (f : Nat → mi_C) {l1 : Nat} {l2 : Int32} {l3 : Int32} {o4 : Option Value} {o5 : Option Value} {fs6 : List Value} {x9 : Nat} {fs11 : List Value} (h7 : f l1 = .inr (3, fs6)) (h8 : l1 < n) (h10 : fs6[2]? = some (.ref x9)) (h12 : f l1 = .inr (3, fs11)) (h13 : l1 < n) (h14 : mi_W d 43 0 (mi_en 3 [.ref l1, .ref x9]) [] (n, sl, f) (mi_Kc d 47 49 [some (.ref l1), some (.int l2), some (.int l3), o4, o5] [] Q)) : mi_W (d + 1) 47 44 [some (.ref l1), some (.int l2), some (.int l3), o4, o5] [] (n, sl, f) Q := by
  refine w_aload_n cd_47_44 rfl ?_
  refine w_aload_n cd_47_45 rfl ?_
  refine w_getfield cd_47_46 (show mt_f 3 34 = some (3, 2) by decide +kernel) h7 h8 h10 ?_
  exact w_invokevirtual cd_47_49 (show mt_m 3 131 = some (43, 0) by decide +kernel) (rest := []) rfl (as := [.ref l1, .ref x9]) rfl h12 (Or.inl h13) ⟨Nat.le_of_ble_eq_true rfl, Nat.le_of_ble_eq_true rfl, Nat.le_of_ble_eq_true rfl⟩ h14
theorem b_47_52 {d : Nat} {Q : (Option Value ⊕ Nat) → mi_H → Prop} (n sl : Nat) (f : Nat → mi_C) {l1 : Nat} {l2 : Int32} {l3 : Int32} {o4 : Option Value} {o5 : Option Value} {s6 : Int32} {fs7 : List Value} {x10 : Nat} {fs12 : List Value} (h8 : f l1 = .inr (3, fs7)) (h9 : l1 < n) (h11 : fs7[4]? = some (.ref x10)) (h13 : f x10 = .inr (4, fs12)) (h14 : x10 < n) (h15 : mi_W d 44 0 (mi_en 5 [.ref x10, .int l2, .int l3, .int s6]) [] (n, sl, f) (mi_Kc d 47 60 [some (.ref l1), some (.int l2), some (.int l3), some (.int s6), o5] [] Q)) : mi_W (d + 1) 47 52 [some (.ref l1), some (.int l2), some (.int l3), o4, o5] [.int s6] (n, sl, f) Q := by
  refine w_istore_n (ls' := [some (.ref l1), some (.int l2), some (.int l3), some (.int s6), o5]) cd_47_52 (Nat.le_of_ble_eq_true rfl) rfl ?_
  refine w_aload_n cd_47_53 rfl ?_
  refine w_getfield cd_47_54 (show mt_f 3 41 = some (3, 4) by decide +kernel) h8 h9 h11 ?_
  refine w_iload_n cd_47_57 rfl ?_
  refine w_iload_n cd_47_58 rfl ?_
  refine w_iload_n cd_47_59 rfl ?_
  exact w_invokevirtual cd_47_60 (show mt_m 3 173 = some (44, 0) by decide +kernel) (rest := []) rfl (as := [.ref x10, .int l2, .int l3, .int s6]) rfl h13 (Or.inl h14) ⟨Nat.le_of_ble_eq_true rfl, Nat.le_of_ble_eq_true rfl, Nat.le_of_ble_eq_true rfl⟩ h15
theorem b_47_63 {d : Nat} {Q : (Option Value ⊕ Nat) → mi_H → Prop} (n sl : Nat) (f : Nat → mi_C) {l1 : Nat} {l2 : Int32} {l3 : Int32} {l4 : Int32} {o5 : Option Value} {s6 : Int32} (h7 : s6 = ((-1)) → mi_W d 47 77 [some (.ref l1), some (.int l2), some (.int l3), some (.int l4), some (.int s6)] [.int l2, .ref l1] (n, sl, f) Q) (h8 : ¬ (s6 = ((-1))) → mi_W d 47 73 [some (.ref l1), some (.int l2), some (.int l3), some (.int l4), some (.int s6)] [.int l2, .ref l1] (n, sl, f) Q) : mi_W d 47 63 [some (.ref l1), some (.int l2), some (.int l3), some (.int l4), o5] [.int s6] (n, sl, f) Q := by
  refine w_istore (ls' := [some (.ref l1), some (.int l2), some (.int l3), some (.int l4), some (.int s6)]) cd_47_63 (Nat.le_of_ble_eq_true rfl) rfl ?_
  refine w_aload_n cd_47_65 rfl ?_
  refine w_iload_n cd_47_66 rfl ?_
  refine w_iload cd_47_67 rfl ?_
  refine w_iconst (v := (-1)) cd_47_69 (by decide) ?_
  exact w_if_icmpeq cd_47_70 (by decide) h7 h8
theorem b_47_73 {d : Nat} {Q : (Option Value ⊕ Nat) → mi_H → Prop} (n sl : Nat) (f : Nat → mi_C) {l1 : Nat} {l2 : Int32} {l3 : Int32} {l4 : Int32} {l5 : Int32} {s6 : Int32} {s7 : Nat} (h8 : mi_W d 47 78 [some (.ref l1), some (.int l2), some (.int l3), some (.int l4), some (.int l5)] [.int 1, .int s6, .ref s7] (n, sl, f) Q) : mi_W d 47 73 [some (.ref l1), some (.int l2), some (.int l3), some (.int l4), some (.int l5)] [.int s6, .ref s7] (n, sl, f) Q := by
  refine w_iconst (v := 1) cd_47_73 (by decide) ?_
  exact w_goto cd_47_74 (by decide) h8
theorem b_47_77 {d : Nat} {Q : (Option Value ⊕ Nat) → mi_H → Prop} (n sl : Nat) (f : Nat → mi_C) {l1 : Nat} {l2 : Int32} {l3 : Int32} {l4 : Int32} {l5 : Int32} {s6 : Int32} {s7 : Nat} (h8 : mi_W d 47 78 [some (.ref l1), some (.int l2), some (.int l3), some (.int l4), some (.int l5)] [.int 0, .int s6, .ref s7] (n, sl, f) Q) : mi_W d 47 77 [some (.ref l1), some (.int l2), some (.int l3), some (.int l4), some (.int l5)] [.int s6, .ref s7] (n, sl, f) Q := by
  refine w_iconst (v := 0) cd_47_77 (by decide) ?_
  exact h8
theorem b_47_78 {d : Nat} {Q : (Option Value ⊕ Nat) → mi_H → Prop} (n sl : Nat) (f : Nat → mi_C) {l1 : Nat} {l2 : Int32} {l3 : Int32} {l4 : Int32} {l5 : Int32} {s6 : Int32} {s7 : Int32} {s8 : Nat} {fs9 : List Value} (h10 : f s8 = .inr (3, fs9)) (h11 : s8 < n) (h12 : mi_W d 21 0 (mi_en 3 [.ref s8, .int s7, .int s6]) [] (n, sl, f) (mi_Kc d 47 78 [some (.ref l1), some (.int l2), some (.int l3), some (.int l4), some (.int l5)] [] Q)) : mi_W (d + 1) 47 78 [some (.ref l1), some (.int l2), some (.int l3), some (.int l4), some (.int l5)] [.int s6, .int s7, .ref s8] (n, sl, f) Q := by
  exact w_invokevirtual cd_47_78 (show mt_m 3 59 = some (21, 0) by decide +kernel) (rest := []) rfl (as := [.ref s8, .int s7, .int s6]) rfl h10 (Or.inl h11) ⟨Nat.le_of_ble_eq_true rfl, Nat.le_of_ble_eq_true rfl, Nat.le_of_ble_eq_true rfl⟩ h12
theorem b_47_81 {d : Nat} {Q : (Option Value ⊕ Nat) → mi_H → Prop} (n sl : Nat) (f : Nat → mi_C) {l1 : Nat} {l2 : Int32} {l3 : Int32} {l4 : Int32} {l5 : Int32} (h6 : Q (.inl (some (.int l5))) (n, sl, f)) : mi_W d 47 81 [some (.ref l1), some (.int l2), some (.int l3), some (.int l4), some (.int l5)] [] (n, sl, f) Q := by
  refine w_iload cd_47_81 rfl ?_
  exact w_ireturn_i cd_47_83 (by decide +kernel) h6
/-! MarloweHost$Reader.readTruth(I)I -/
set_option maxRecDepth 100000 in
theorem mq_48 : mt_q 48 = my_48 := rfl
set_option maxRecDepth 100000 in
theorem ci_48 : mt_inc 0 my_48.cd = true := by decide +kernel
theorem cd_48_0 : mt_cd 48 0 = some (.aload_n 0) := mt_cd_of (q := (0, .aload_n 0, 1)) mq_48 ci_48 (List.mem_append_left _ (show _ ∈ my_48_0 from List.mem_of_getElem? (i := 0) rfl))
theorem cd_48_1 : mt_cd 48 1 = some (.iload_n 1) := mt_cd_of (q := (1, .iload_n 1, 1)) mq_48 ci_48 (List.mem_append_left _ (show _ ∈ my_48_0 from List.mem_of_getElem? (i := 1) rfl))
theorem cd_48_2 : mt_cd 48 2 = some (.bipush 100) := mt_cd_of (q := (2, .bipush 100, 2)) mq_48 ci_48 (List.mem_append_left _ (show _ ∈ my_48_0 from List.mem_of_getElem? (i := 2) rfl))
theorem cd_48_4 : mt_cd 48 4 = some (.if_icmp .gt 7) := mt_cd_of (q := (4, .if_icmp .gt 7, 3)) mq_48 ci_48 (List.mem_append_left _ (show _ ∈ my_48_0 from List.mem_of_getElem? (i := 3) rfl))
theorem cd_48_7 : mt_cd 48 7 = some (.iconst 1) := mt_cd_of (q := (7, .iconst 1, 1)) mq_48 ci_48 (List.mem_append_left _ (show _ ∈ my_48_0 from List.mem_of_getElem? (i := 4) rfl))
theorem cd_48_8 : mt_cd 48 8 = some (.goto 4) := mt_cd_of (q := (8, .goto 4, 3)) mq_48 ci_48 (List.mem_append_left _ (show _ ∈ my_48_0 from List.mem_of_getElem? (i := 5) rfl))
theorem cd_48_11 : mt_cd 48 11 = some (.iconst 0) := mt_cd_of (q := (11, .iconst 0, 1)) mq_48 ci_48 (List.mem_append_left _ (show _ ∈ my_48_0 from List.mem_of_getElem? (i := 6) rfl))
theorem cd_48_12 : mt_cd 48 12 = some (.invokevirtual 70) := mt_cd_of (q := (12, .invokevirtual 70, 3)) mq_48 ci_48 (List.mem_append_left _ (show _ ∈ my_48_0 from List.mem_of_getElem? (i := 7) rfl))
theorem cd_48_15 : mt_cd 48 15 = some (.aload_n 0) := mt_cd_of (q := (15, .aload_n 0, 1)) mq_48 ci_48 (List.mem_append_left _ (show _ ∈ my_48_0 from List.mem_of_getElem? (i := 8) rfl))
theorem cd_48_16 : mt_cd 48 16 = some (.getfield 15) := mt_cd_of (q := (16, .getfield 15, 3)) mq_48 ci_48 (List.mem_append_left _ (show _ ∈ my_48_0 from List.mem_of_getElem? (i := 9) rfl))
theorem cd_48_19 : mt_cd 48 19 = some (.getfield 67) := mt_cd_of (q := (19, .getfield 67, 3)) mq_48 ci_48 (List.mem_append_left _ (show _ ∈ my_48_0 from List.mem_of_getElem? (i := 10) rfl))
theorem cd_48_22 : mt_cd 48 22 = some (.bipush 24) := mt_cd_of (q := (22, .bipush 24, 2)) mq_48 ci_48 (List.mem_append_left _ (show _ ∈ my_48_0 from List.mem_of_getElem? (i := 11) rfl))
theorem cd_48_24 : mt_cd 48 24 = some (.if_icmp .ne 26) := mt_cd_of (q := (24, .if_icmp .ne 26, 3)) mq_48 ci_48 (List.mem_append_left _ (show _ ∈ my_48_0 from List.mem_of_getElem? (i := 12) rfl))
theorem cd_48_27 : mt_cd 48 27 = some (.aload_n 0) := mt_cd_of (q := (27, .aload_n 0, 1)) mq_48 ci_48 (List.mem_append_left _ (show _ ∈ my_48_0 from List.mem_of_getElem? (i := 13) rfl))
theorem cd_48_28 : mt_cd 48 28 = some (.getfield 15) := mt_cd_of (q := (28, .getfield 15, 3)) mq_48 ci_48 (List.mem_append_left _ (show _ ∈ my_48_0 from List.mem_of_getElem? (i := 14) rfl))
theorem cd_48_31 : mt_cd 48 31 = some (.invokevirtual 84) := mt_cd_of (q := (31, .invokevirtual 84, 3)) mq_48 ci_48 (List.mem_append_left _ (show _ ∈ my_48_0 from List.mem_of_getElem? (i := 15) rfl))
theorem cd_48_34 : mt_cd 48 34 = some (.aload_n 0) := mt_cd_of (q := (34, .aload_n 0, 1)) mq_48 ci_48 (List.mem_append_left _ (show _ ∈ my_48_0 from List.mem_of_getElem? (i := 16) rfl))
theorem cd_48_35 : mt_cd 48 35 = some (.iload_n 1) := mt_cd_of (q := (35, .iload_n 1, 1)) mq_48 ci_48 (List.mem_append_left _ (show _ ∈ my_48_0 from List.mem_of_getElem? (i := 17) rfl))
theorem cd_48_36 : mt_cd 48 36 = some (.iconst 1) := mt_cd_of (q := (36, .iconst 1, 1)) mq_48 ci_48 (List.mem_append_left _ (show _ ∈ my_48_0 from List.mem_of_getElem? (i := 18) rfl))
theorem cd_48_37 : mt_cd 48 37 = some (.iadd) := mt_cd_of (q := (37, .iadd, 1)) mq_48 ci_48 (List.mem_append_left _ (show _ ∈ my_48_0 from List.mem_of_getElem? (i := 19) rfl))
theorem cd_48_38 : mt_cd 48 38 = some (.invokevirtual 135) := mt_cd_of (q := (38, .invokevirtual 135, 3)) mq_48 ci_48 (List.mem_append_left _ (show _ ∈ my_48_0 from List.mem_of_getElem? (i := 20) rfl))
theorem cd_48_41 : mt_cd 48 41 = some (.istore_n 2) := mt_cd_of (q := (41, .istore_n 2, 1)) mq_48 ci_48 (List.mem_append_left _ (show _ ∈ my_48_0 from List.mem_of_getElem? (i := 21) rfl))
theorem cd_48_42 : mt_cd 48 42 = some (.aload_n 0) := mt_cd_of (q := (42, .aload_n 0, 1)) mq_48 ci_48 (List.mem_append_left _ (show _ ∈ my_48_0 from List.mem_of_getElem? (i := 22) rfl))
theorem cd_48_43 : mt_cd 48 43 = some (.bipush 25) := mt_cd_of (q := (43, .bipush 25, 2)) mq_48 ci_48 (List.mem_append_left _ (show _ ∈ my_48_0 from List.mem_of_getElem? (i := 23) rfl))
theorem cd_48_45 : mt_cd 48 45 = some (.invokevirtual 99) := mt_cd_of (q := (45, .invokevirtual 99, 3)) mq_48 ci_48 (List.mem_append_left _ (show _ ∈ my_48_0 from List.mem_of_getElem? (i := 24) rfl))
theorem cd_48_48 : mt_cd 48 48 = some (.iload_n 2) := mt_cd_of (q := (48, .iload_n 2, 1)) mq_48 ci_48 (List.mem_append_left _ (show _ ∈ my_48_0 from List.mem_of_getElem? (i := 25) rfl))
theorem cd_48_49 : mt_cd 48 49 = some (.ireturn) := mt_cd_of (q := (49, .ireturn, 1)) mq_48 ci_48 (List.mem_append_left _ (show _ ∈ my_48_0 from List.mem_of_getElem? (i := 26) rfl))
theorem cd_48_50 : mt_cd 48 50 = some (.aload_n 0) := mt_cd_of (q := (50, .aload_n 0, 1)) mq_48 ci_48 (List.mem_append_left _ (show _ ∈ my_48_0 from List.mem_of_getElem? (i := 27) rfl))
theorem cd_48_51 : mt_cd 48 51 = some (.getfield 15) := mt_cd_of (q := (51, .getfield 15, 3)) mq_48 ci_48 (List.mem_append_left _ (show _ ∈ my_48_0 from List.mem_of_getElem? (i := 28) rfl))
theorem cd_48_54 : mt_cd 48 54 = some (.getfield 67) := mt_cd_of (q := (54, .getfield 67, 3)) mq_48 ci_48 (List.mem_append_left _ (show _ ∈ my_48_0 from List.mem_of_getElem? (i := 29) rfl))
theorem cd_48_57 : mt_cd 48 57 = some (.istore_n 2) := mt_cd_of (q := (57, .istore_n 2, 1)) mq_48 ci_48 (List.mem_append_left _ (show _ ∈ my_48_0 from List.mem_of_getElem? (i := 30) rfl))
theorem cd_48_58 : mt_cd 48 58 = some (.iload_n 2) := mt_cd_of (q := (58, .iload_n 2, 1)) mq_48 ci_48 (List.mem_append_left _ (show _ ∈ my_48_0 from List.mem_of_getElem? (i := 31) rfl))
theorem cd_48_59 : mt_cd 48 59 = some (.bipush 32) := mt_cd_of (q := (59, .bipush 32, 2)) mq_48 ci_48 (List.mem_append_left _ (show _ ∈ my_48_0 from List.mem_of_getElem? (i := 32) rfl))
theorem cd_48_61 : mt_cd 48 61 = some (.if_icmp .lt 13) := mt_cd_of (q := (61, .if_icmp .lt 13, 3)) mq_48 ci_48 (List.mem_append_left _ (show _ ∈ my_48_0 from List.mem_of_getElem? (i := 33) rfl))
theorem cd_48_64 : mt_cd 48 64 = some (.iload_n 2) := mt_cd_of (q := (64, .iload_n 2, 1)) mq_48 ci_48 (List.mem_append_left _ (show _ ∈ my_48_0 from List.mem_of_getElem? (i := 34) rfl))
theorem cd_48_65 : mt_cd 48 65 = some (.bipush 36) := mt_cd_of (q := (65, .bipush 36, 2)) mq_48 ci_48 (List.mem_append_left _ (show _ ∈ my_48_0 from List.mem_of_getElem? (i := 35) rfl))
theorem cd_48_67 : mt_cd 48 67 = some (.if_icmp .gt 7) := mt_cd_of (q := (67, .if_icmp .gt 7, 3)) mq_48 ci_48 (List.mem_append_left _ (show _ ∈ my_48_0 from List.mem_of_getElem? (i := 36) rfl))
theorem cd_48_70 : mt_cd 48 70 = some (.iconst 1) := mt_cd_of (q := (70, .iconst 1, 1)) mq_48 ci_48 (List.mem_append_left _ (show _ ∈ my_48_0 from List.mem_of_getElem? (i := 37) rfl))
theorem cd_48_71 : mt_cd 48 71 = some (.goto 4) := mt_cd_of (q := (71, .goto 4, 3)) mq_48 ci_48 (List.mem_append_left _ (show _ ∈ my_48_0 from List.mem_of_getElem? (i := 38) rfl))
theorem cd_48_74 : mt_cd 48 74 = some (.iconst 0) := mt_cd_of (q := (74, .iconst 0, 1)) mq_48 ci_48 (List.mem_append_left _ (show _ ∈ my_48_0 from List.mem_of_getElem? (i := 39) rfl))
theorem cd_48_75 : mt_cd 48 75 = some (.istore_n 3) := mt_cd_of (q := (75, .istore_n 3, 1)) mq_48 ci_48 (List.mem_append_left _ (show _ ∈ my_48_0 from List.mem_of_getElem? (i := 40) rfl))
theorem cd_48_76 : mt_cd 48 76 = some (.aload_n 0) := mt_cd_of (q := (76, .aload_n 0, 1)) mq_48 ci_48 (List.mem_append_left _ (show _ ∈ my_48_0 from List.mem_of_getElem? (i := 41) rfl))
theorem cd_48_77 : mt_cd 48 77 = some (.iload_n 3) := mt_cd_of (q := (77, .iload_n 3, 1)) mq_48 ci_48 (List.mem_append_left _ (show _ ∈ my_48_0 from List.mem_of_getElem? (i := 42) rfl))
theorem cd_48_78 : mt_cd 48 78 = some (.ifCond .ne 15) := mt_cd_of (q := (78, .ifCond .ne 15, 3)) mq_48 ci_48 (List.mem_append_left _ (show _ ∈ my_48_0 from List.mem_of_getElem? (i := 43) rfl))
theorem cd_48_81 : mt_cd 48 81 = some (.iload_n 2) := mt_cd_of (q := (81, .iload_n 2, 1)) mq_48 ci_48 (List.mem_append_left _ (show _ ∈ my_48_0 from List.mem_of_getElem? (i := 44) rfl))
theorem cd_48_82 : mt_cd 48 82 = some (.bipush 18) := mt_cd_of (q := (82, .bipush 18, 2)) mq_48 ci_48 (List.mem_append_left _ (show _ ∈ my_48_0 from List.mem_of_getElem? (i := 45) rfl))
theorem cd_48_84 : mt_cd 48 84 = some (.if_icmp .lt 13) := mt_cd_of (q := (84, .if_icmp .lt 13, 3)) mq_48 ci_48 (List.mem_append_left _ (show _ ∈ my_48_0 from List.mem_of_getElem? (i := 46) rfl))
theorem cd_48_87 : mt_cd 48 87 = some (.iload_n 2) := mt_cd_of (q := (87, .iload_n 2, 1)) mq_48 ci_48 (List.mem_append_left _ (show _ ∈ my_48_0 from List.mem_of_getElem? (i := 47) rfl))
theorem cd_48_88 : mt_cd 48 88 = some (.bipush 23) := mt_cd_of (q := (88, .bipush 23, 2)) mq_48 ci_48 (List.mem_append_left _ (show _ ∈ my_48_0 from List.mem_of_getElem? (i := 48) rfl))
theorem cd_48_90 : mt_cd 48 90 = some (.if_icmp .gt 7) := mt_cd_of (q := (90, .if_icmp .gt 7, 3)) mq_48 ci_48 (List.mem_append_left _ (show _ ∈ my_48_0 from List.mem_of_getElem? (i := 49) rfl))
theorem cd_48_93 : mt_cd 48 93 = some (.iconst 1) := mt_cd_of (q := (93, .iconst 1, 1)) mq_48 ci_48 (List.mem_append_left _ (show _ ∈ my_48_0 from List.mem_of_getElem? (i := 50) rfl))
theorem cd_48_94 : mt_cd 48 94 = some (.goto 4) := mt_cd_of (q := (94, .goto 4, 3)) mq_48 ci_48 (List.mem_append_left _ (show _ ∈ my_48_0 from List.mem_of_getElem? (i := 51) rfl))
theorem cd_48_97 : mt_cd 48 97 = some (.iconst 0) := mt_cd_of (q := (97, .iconst 0, 1)) mq_48 ci_48 (List.mem_append_left _ (show _ ∈ my_48_0 from List.mem_of_getElem? (i := 52) rfl))
theorem cd_48_98 : mt_cd 48 98 = some (.invokevirtual 70) := mt_cd_of (q := (98, .invokevirtual 70, 3)) mq_48 ci_48 (List.mem_append_left _ (show _ ∈ my_48_0 from List.mem_of_getElem? (i := 53) rfl))
theorem cd_48_101 : mt_cd 48 101 = some (.aload_n 0) := mt_cd_of (q := (101, .aload_n 0, 1)) mq_48 ci_48 (List.mem_append_left _ (show _ ∈ my_48_0 from List.mem_of_getElem? (i := 54) rfl))
theorem cd_48_102 : mt_cd 48 102 = some (.invokevirtual 102) := mt_cd_of (q := (102, .invokevirtual 102, 3)) mq_48 ci_48 (List.mem_append_left _ (show _ ∈ my_48_0 from List.mem_of_getElem? (i := 55) rfl))
theorem cd_48_105 : mt_cd 48 105 = some (.istore 4) := mt_cd_of (q := (105, .istore 4, 2)) mq_48 ci_48 (List.mem_append_left _ (show _ ∈ my_48_0 from List.mem_of_getElem? (i := 56) rfl))
theorem cd_48_107 : mt_cd 48 107 = some (.iload_n 3) := mt_cd_of (q := (107, .iload_n 3, 1)) mq_48 ci_48 (List.mem_append_left _ (show _ ∈ my_48_0 from List.mem_of_getElem? (i := 57) rfl))
theorem cd_48_108 : mt_cd 48 108 = some (.ifCond .eq 40) := mt_cd_of (q := (108, .ifCond .eq 40, 3)) mq_48 ci_48 (List.mem_append_left _ (show _ ∈ my_48_0 from List.mem_of_getElem? (i := 58) rfl))
theorem cd_48_111 : mt_cd 48 111 = some (.aload_n 0) := mt_cd_of (q := (111, .aload_n 0, 1)) mq_48 ci_48 (List.mem_append_left _ (show _ ∈ my_48_0 from List.mem_of_getElem? (i := 59) rfl))
theorem cd_48_112 : mt_cd 48 112 = some (.getfield 19) := mt_cd_of (q := (112, .getfield 19, 3)) mq_48 ci_48 (List.mem_append_right _ (List.mem_append_left _ (show _ ∈ my_48_1 from List.mem_of_getElem? (i := 0) rfl)))
theorem cd_48_115 : mt_cd 48 115 = some (.getfield 109) := mt_cd_of (q := (115, .getfield 109, 3)) mq_48 ci_48 (List.mem_append_right _ (List.mem_append_left _ (show _ ∈ my_48_1 from List.mem_of_getElem? (i := 1) rfl)))
theorem cd_48_118 : mt_cd 48 118 = some (.iload 4) := mt_cd_of (q := (118, .iload 4, 2)) mq_48 ci_48 (List.mem_append_right _ (List.mem_append_left _ (show _ ∈ my_48_1 from List.mem_of_getElem? (i := 2) rfl)))
theorem cd_48_120 : mt_cd 48 120 = some (.aload_n 0) := mt_cd_of (q := (120, .aload_n 0, 1)) mq_48 ci_48 (List.mem_append_right _ (List.mem_append_left _ (show _ ∈ my_48_1 from List.mem_of_getElem? (i := 3) rfl)))
theorem cd_48_121 : mt_cd 48 121 = some (.iload_n 1) := mt_cd_of (q := (121, .iload_n 1, 1)) mq_48 ci_48 (List.mem_append_right _ (List.mem_append_left _ (show _ ∈ my_48_1 from List.mem_of_getElem? (i := 4) rfl)))
theorem cd_48_122 : mt_cd 48 122 = some (.iconst 1) := mt_cd_of (q := (122, .iconst 1, 1)) mq_48 ci_48 (List.mem_append_right _ (List.mem_append_left _ (show _ ∈ my_48_1 from List.mem_of_getElem? (i := 5) rfl)))
theorem cd_48_123 : mt_cd 48 123 = some (.iadd) := mt_cd_of (q := (123, .iadd, 1)) mq_48 ci_48 (List.mem_append_right _ (List.mem_append_left _ (show _ ∈ my_48_1 from List.mem_of_getElem? (i := 6) rfl)))
theorem cd_48_124 : mt_cd 48 124 = some (.invokevirtual 113) := mt_cd_of (q := (124, .invokevirtual 113, 3)) mq_48 ci_48 (List.mem_append_right _ (List.mem_append_left _ (show _ ∈ my_48_1 from List.mem_of_getElem? (i := 7) rfl)))
theorem cd_48_127 : mt_cd 48 127 = some (.iastore) := mt_cd_of (q := (127, .iastore, 1)) mq_48 ci_48 (List.mem_append_right _ (List.mem_append_left _ (show _ ∈ my_48_1 from List.mem_of_getElem? (i := 8) rfl)))
theorem cd_48_128 : mt_cd 48 128 = some (.aload_n 0) := mt_cd_of (q := (128, .aload_n 0, 1)) mq_48 ci_48 (List.mem_append_right _ (List.mem_append_left _ (show _ ∈ my_48_1 from List.mem_of_getElem? (i := 9) rfl)))
theorem cd_48_129 : mt_cd 48 129 = some (.getfield 19) := mt_cd_of (q := (129, .getfield 19, 3)) mq_48 ci_48 (List.mem_append_right _ (List.mem_append_left _ (show _ ∈ my_48_1 from List.mem_of_getElem? (i := 10) rfl)))
theorem cd_48_132 : mt_cd 48 132 = some (.getfield 141) := mt_cd_of (q := (132, .getfield 141, 3)) mq_48 ci_48 (List.mem_append_right _ (List.mem_append_left _ (show _ ∈ my_48_1 from List.mem_of_getElem? (i := 11) rfl)))
theorem cd_48_135 : mt_cd 48 135 = some (.iload 4) := mt_cd_of (q := (135, .iload 4, 2)) mq_48 ci_48 (List.mem_append_right _ (List.mem_append_left _ (show _ ∈ my_48_1 from List.mem_of_getElem? (i := 12) rfl)))
theorem cd_48_137 : mt_cd 48 137 = some (.aload_n 0) := mt_cd_of (q := (137, .aload_n 0, 1)) mq_48 ci_48 (List.mem_append_right _ (List.mem_append_left _ (show _ ∈ my_48_1 from List.mem_of_getElem? (i := 13) rfl)))
theorem cd_48_138 : mt_cd 48 138 = some (.iload_n 1) := mt_cd_of (q := (138, .iload_n 1, 1)) mq_48 ci_48 (List.mem_append_right _ (List.mem_append_left _ (show _ ∈ my_48_1 from List.mem_of_getElem? (i := 14) rfl)))
theorem cd_48_139 : mt_cd 48 139 = some (.iconst 1) := mt_cd_of (q := (139, .iconst 1, 1)) mq_48 ci_48 (List.mem_append_right _ (List.mem_append_left _ (show _ ∈ my_48_1 from List.mem_of_getElem? (i := 15) rfl)))
theorem cd_48_140 : mt_cd 48 140 = some (.iadd) := mt_cd_of (q := (140, .iadd, 1)) mq_48 ci_48 (List.mem_append_right _ (List.mem_append_left _ (show _ ∈ my_48_1 from List.mem_of_getElem? (i := 16) rfl)))
theorem cd_48_141 : mt_cd 48 141 = some (.invokevirtual 113) := mt_cd_of (q := (141, .invokevirtual 113, 3)) mq_48 ci_48 (List.mem_append_right _ (List.mem_append_left _ (show _ ∈ my_48_1 from List.mem_of_getElem? (i := 17) rfl)))
theorem cd_48_144 : mt_cd 48 144 = some (.iastore) := mt_cd_of (q := (144, .iastore, 1)) mq_48 ci_48 (List.mem_append_right _ (List.mem_append_left _ (show _ ∈ my_48_1 from List.mem_of_getElem? (i := 18) rfl)))
theorem cd_48_145 : mt_cd 48 145 = some (.goto 98) := mt_cd_of (q := (145, .goto 98, 3)) mq_48 ci_48 (List.mem_append_right _ (List.mem_append_left _ (show _ ∈ my_48_1 from List.mem_of_getElem? (i := 19) rfl)))
theorem cd_48_148 : mt_cd 48 148 = some (.iload_n 2) := mt_cd_of (q := (148, .iload_n 2, 1)) mq_48 ci_48 (List.mem_append_right _ (List.mem_append_left _ (show _ ∈ my_48_1 from List.mem_of_getElem? (i := 20) rfl)))
theorem cd_48_149 : mt_cd 48 149 = some (.bipush 20) := mt_cd_of (q := (149, .bipush 20, 2)) mq_48 ci_48 (List.mem_append_right _ (List.mem_append_left _ (show _ ∈ my_48_1 from List.mem_of_getElem? (i := 21) rfl)))
theorem cd_48_151 : mt_cd 48 151 = some (.if_icmp .eq 9) := mt_cd_of (q := (151, .if_icmp .eq 9, 3)) mq_48 ci_48 (List.mem_append_right _ (List.mem_append_left _ (show _ ∈ my_48_1 from List.mem_of_getElem? (i := 22) rfl)))
theorem cd_48_154 : mt_cd 48 154 = some (.iload_n 2) := mt_cd_of (q := (154, .iload_n 2, 1)) mq_48 ci_48 (List.mem_append_right _ (List.mem_append_left _ (show _ ∈ my_48_1 from List.mem_of_getElem? (i := 23) rfl)))
theorem cd_48_155 : mt_cd 48 155 = some (.bipush 21) := mt_cd_of (q := (155, .bipush 21, 2)) mq_48 ci_48 (List.mem_append_right _ (List.mem_append_left _ (show _ ∈ my_48_1 from List.mem_of_getElem? (i := 24) rfl)))
theorem cd_48_157 : mt_cd 48 157 = some (.if_icmp .ne 40) := mt_cd_of (q := (157, .if_icmp .ne 40, 3)) mq_48 ci_48 (List.mem_append_right _ (List.mem_append_left _ (show _ ∈ my_48_1 from List.mem_of_getElem? (i := 25) rfl)))
theorem cd_48_160 : mt_cd 48 160 = some (.aload_n 0) := mt_cd_of (q := (160, .aload_n 0, 1)) mq_48 ci_48 (List.mem_append_right _ (List.mem_append_left _ (show _ ∈ my_48_1 from List.mem_of_getElem? (i := 26) rfl)))
theorem cd_48_161 : mt_cd 48 161 = some (.getfield 19) := mt_cd_of (q := (161, .getfield 19, 3)) mq_48 ci_48 (List.mem_append_right _ (List.mem_append_left _ (show _ ∈ my_48_1 from List.mem_of_getElem? (i := 27) rfl)))
theorem cd_48_164 : mt_cd 48 164 = some (.getfield 109) := mt_cd_of (q := (164, .getfield 109, 3)) mq_48 ci_48 (List.mem_append_right _ (List.mem_append_left _ (show _ ∈ my_48_1 from List.mem_of_getElem? (i := 28) rfl)))
theorem cd_48_167 : mt_cd 48 167 = some (.iload 4) := mt_cd_of (q := (167, .iload 4, 2)) mq_48 ci_48 (List.mem_append_right _ (List.mem_append_left _ (show _ ∈ my_48_1 from List.mem_of_getElem? (i := 29) rfl)))
theorem cd_48_169 : mt_cd 48 169 = some (.aload_n 0) := mt_cd_of (q := (169, .aload_n 0, 1)) mq_48 ci_48 (List.mem_append_right _ (List.mem_append_left _ (show _ ∈ my_48_1 from List.mem_of_getElem? (i := 30) rfl)))
theorem cd_48_170 : mt_cd 48 170 = some (.iload_n 1) := mt_cd_of (q := (170, .iload_n 1, 1)) mq_48 ci_48 (List.mem_append_right _ (List.mem_append_left _ (show _ ∈ my_48_1 from List.mem_of_getElem? (i := 31) rfl)))
theorem cd_48_171 : mt_cd 48 171 = some (.iconst 1) := mt_cd_of (q := (171, .iconst 1, 1)) mq_48 ci_48 (List.mem_append_right _ (List.mem_append_left _ (show _ ∈ my_48_1 from List.mem_of_getElem? (i := 32) rfl)))
theorem cd_48_172 : mt_cd 48 172 = some (.iadd) := mt_cd_of (q := (172, .iadd, 1)) mq_48 ci_48 (List.mem_append_right _ (List.mem_append_left _ (show _ ∈ my_48_1 from List.mem_of_getElem? (i := 33) rfl)))
theorem cd_48_173 : mt_cd 48 173 = some (.invokevirtual 135) := mt_cd_of (q := (173, .invokevirtual 135, 3)) mq_48 ci_48 (List.mem_append_right _ (List.mem_append_left _ (show _ ∈ my_48_1 from List.mem_of_getElem? (i := 34) rfl)))
theorem cd_48_176 : mt_cd 48 176 = some (.iastore) := mt_cd_of (q := (176, .iastore, 1)) mq_48 ci_48 (List.mem_append_right _ (List.mem_append_left _ (show _ ∈ my_48_1 from List.mem_of_getElem? (i := 35) rfl)))
theorem cd_48_177 : mt_cd 48 177 = some (.aload_n 0) := mt_cd_of (q := (177, .aload_n 0, 1)) mq_48 ci_48 (List.mem_append_right _ (List.mem_append_left _ (show _ ∈ my_48_1 from List.mem_of_getElem? (i := 36) rfl)))
theorem cd_48_178 : mt_cd 48 178 = some (.getfield 19) := mt_cd_of (q := (178, .getfield 19, 3)) mq_48 ci_48 (List.mem_append_right _ (List.mem_append_left _ (show _ ∈ my_48_1 from List.mem_of_getElem? (i := 37) rfl)))
theorem cd_48_181 : mt_cd 48 181 = some (.getfield 141) := mt_cd_of (q := (181, .getfield 141, 3)) mq_48 ci_48 (List.mem_append_right _ (List.mem_append_left _ (show _ ∈ my_48_1 from List.mem_of_getElem? (i := 38) rfl)))
theorem cd_48_184 : mt_cd 48 184 = some (.iload 4) := mt_cd_of (q := (184, .iload 4, 2)) mq_48 ci_48 (List.mem_append_right _ (List.mem_append_left _ (show _ ∈ my_48_1 from List.mem_of_getElem? (i := 39) rfl)))
theorem cd_48_186 : mt_cd 48 186 = some (.aload_n 0) := mt_cd_of (q := (186, .aload_n 0, 1)) mq_48 ci_48 (List.mem_append_right _ (List.mem_append_left _ (show _ ∈ my_48_1 from List.mem_of_getElem? (i := 40) rfl)))
theorem cd_48_187 : mt_cd 48 187 = some (.iload_n 1) := mt_cd_of (q := (187, .iload_n 1, 1)) mq_48 ci_48 (List.mem_append_right _ (List.mem_append_left _ (show _ ∈ my_48_1 from List.mem_of_getElem? (i := 41) rfl)))
theorem cd_48_188 : mt_cd 48 188 = some (.iconst 1) := mt_cd_of (q := (188, .iconst 1, 1)) mq_48 ci_48 (List.mem_append_right _ (List.mem_append_left _ (show _ ∈ my_48_1 from List.mem_of_getElem? (i := 42) rfl)))
theorem cd_48_189 : mt_cd 48 189 = some (.iadd) := mt_cd_of (q := (189, .iadd, 1)) mq_48 ci_48 (List.mem_append_right _ (List.mem_append_left _ (show _ ∈ my_48_1 from List.mem_of_getElem? (i := 43) rfl)))
theorem cd_48_190 : mt_cd 48 190 = some (.invokevirtual 135) := mt_cd_of (q := (190, .invokevirtual 135, 3)) mq_48 ci_48 (List.mem_append_right _ (List.mem_append_left _ (show _ ∈ my_48_1 from List.mem_of_getElem? (i := 44) rfl)))
theorem cd_48_193 : mt_cd 48 193 = some (.iastore) := mt_cd_of (q := (193, .iastore, 1)) mq_48 ci_48 (List.mem_append_right _ (List.mem_append_left _ (show _ ∈ my_48_1 from List.mem_of_getElem? (i := 45) rfl)))
theorem cd_48_194 : mt_cd 48 194 = some (.goto 49) := mt_cd_of (q := (194, .goto 49, 3)) mq_48 ci_48 (List.mem_append_right _ (List.mem_append_left _ (show _ ∈ my_48_1 from List.mem_of_getElem? (i := 46) rfl)))
theorem cd_48_197 : mt_cd 48 197 = some (.iload_n 2) := mt_cd_of (q := (197, .iload_n 2, 1)) mq_48 ci_48 (List.mem_append_right _ (List.mem_append_left _ (show _ ∈ my_48_1 from List.mem_of_getElem? (i := 47) rfl)))
theorem cd_48_198 : mt_cd 48 198 = some (.bipush 22) := mt_cd_of (q := (198, .bipush 22, 2)) mq_48 ci_48 (List.mem_append_right _ (List.mem_append_left _ (show _ ∈ my_48_1 from List.mem_of_getElem? (i := 48) rfl)))
theorem cd_48_200 : mt_cd 48 200 = some (.if_icmp .ne 23) := mt_cd_of (q := (200, .if_icmp .ne 23, 3)) mq_48 ci_48 (List.mem_append_right _ (List.mem_append_left _ (show _ ∈ my_48_1 from List.mem_of_getElem? (i := 49) rfl)))
theorem cd_48_203 : mt_cd 48 203 = some (.aload_n 0) := mt_cd_of (q := (203, .aload_n 0, 1)) mq_48 ci_48 (List.mem_append_right _ (List.mem_append_left _ (show _ ∈ my_48_1 from List.mem_of_getElem? (i := 50) rfl)))
theorem cd_48_204 : mt_cd 48 204 = some (.getfield 19) := mt_cd_of (q := (204, .getfield 19, 3)) mq_48 ci_48 (List.mem_append_right _ (List.mem_append_left _ (show _ ∈ my_48_1 from List.mem_of_getElem? (i := 51) rfl)))
theorem cd_48_207 : mt_cd 48 207 = some (.getfield 109) := mt_cd_of (q := (207, .getfield 109, 3)) mq_48 ci_48 (List.mem_append_right _ (List.mem_append_left _ (show _ ∈ my_48_1 from List.mem_of_getElem? (i := 52) rfl)))
theorem cd_48_210 : mt_cd 48 210 = some (.iload 4) := mt_cd_of (q := (210, .iload 4, 2)) mq_48 ci_48 (List.mem_append_right _ (List.mem_append_left _ (show _ ∈ my_48_1 from List.mem_of_getElem? (i := 53) rfl)))
theorem cd_48_212 : mt_cd 48 212 = some (.aload_n 0) := mt_cd_of (q := (212, .aload_n 0, 1)) mq_48 ci_48 (List.mem_append_right _ (List.mem_append_left _ (show _ ∈ my_48_1 from List.mem_of_getElem? (i := 54) rfl)))
theorem cd_48_213 : mt_cd 48 213 = some (.iload_n 1) := mt_cd_of (q := (213, .iload_n 1, 1)) mq_48 ci_48 (List.mem_append_right _ (List.mem_append_left _ (show _ ∈ my_48_1 from List.mem_of_getElem? (i := 55) rfl)))
theorem cd_48_214 : mt_cd 48 214 = some (.iconst 1) := mt_cd_of (q := (214, .iconst 1, 1)) mq_48 ci_48 (List.mem_append_right _ (List.mem_append_left _ (show _ ∈ my_48_1 from List.mem_of_getElem? (i := 56) rfl)))
theorem cd_48_215 : mt_cd 48 215 = some (.iadd) := mt_cd_of (q := (215, .iadd, 1)) mq_48 ci_48 (List.mem_append_right _ (List.mem_append_left _ (show _ ∈ my_48_1 from List.mem_of_getElem? (i := 57) rfl)))
theorem cd_48_216 : mt_cd 48 216 = some (.invokevirtual 135) := mt_cd_of (q := (216, .invokevirtual 135, 3)) mq_48 ci_48 (List.mem_append_right _ (List.mem_append_left _ (show _ ∈ my_48_1 from List.mem_of_getElem? (i := 58) rfl)))
theorem cd_48_219 : mt_cd 48 219 = some (.iastore) := mt_cd_of (q := (219, .iastore, 1)) mq_48 ci_48 (List.mem_append_right _ (List.mem_append_left _ (show _ ∈ my_48_1 from List.mem_of_getElem? (i := 59) rfl)))
theorem cd_48_220 : mt_cd 48 220 = some (.goto 23) := mt_cd_of (q := (220, .goto 23, 3)) mq_48 ci_48 (List.mem_append_right _ (List.mem_append_right _ ((show _ ∈ my_48_2 from List.mem_of_getElem? (i := 0) rfl))))
theorem cd_48_223 : mt_cd 48 223 = some (.iload_n 2) := mt_cd_of (q := (223, .iload_n 2, 1)) mq_48 ci_48 (List.mem_append_right _ (List.mem_append_right _ ((show _ ∈ my_48_2 from List.mem_of_getElem? (i := 1) rfl))))
theorem cd_48_224 : mt_cd 48 224 = some (.bipush 23) := mt_cd_of (q := (224, .bipush 23, 2)) mq_48 ci_48 (List.mem_append_right _ (List.mem_append_right _ ((show _ ∈ my_48_2 from List.mem_of_getElem? (i := 2) rfl))))
theorem cd_48_226 : mt_cd 48 226 = some (.if_icmp .ne 17) := mt_cd_of (q := (226, .if_icmp .ne 17, 3)) mq_48 ci_48 (List.mem_append_right _ (List.mem_append_right _ ((show _ ∈ my_48_2 from List.mem_of_getElem? (i := 3) rfl))))
theorem cd_48_229 : mt_cd 48 229 = some (.aload_n 0) := mt_cd_of (q := (229, .aload_n 0, 1)) mq_48 ci_48 (List.mem_append_right _ (List.mem_append_right _ ((show _ ∈ my_48_2 from List.mem_of_getElem? (i := 4) rfl))))
theorem cd_48_230 : mt_cd 48 230 = some (.getfield 19) := mt_cd_of (q := (230, .getfield 19, 3)) mq_48 ci_48 (List.mem_append_right _ (List.mem_append_right _ ((show _ ∈ my_48_2 from List.mem_of_getElem? (i := 5) rfl))))
theorem cd_48_233 : mt_cd 48 233 = some (.getfield 128) := mt_cd_of (q := (233, .getfield 128, 3)) mq_48 ci_48 (List.mem_append_right _ (List.mem_append_right _ ((show _ ∈ my_48_2 from List.mem_of_getElem? (i := 6) rfl))))
theorem cd_48_236 : mt_cd 48 236 = some (.iload 4) := mt_cd_of (q := (236, .iload 4, 2)) mq_48 ci_48 (List.mem_append_right _ (List.mem_append_right _ ((show _ ∈ my_48_2 from List.mem_of_getElem? (i := 7) rfl))))
theorem cd_48_238 : mt_cd 48 238 = some (.aload_n 0) := mt_cd_of (q := (238, .aload_n 0, 1)) mq_48 ci_48 (List.mem_append_right _ (List.mem_append_right _ ((show _ ∈ my_48_2 from List.mem_of_getElem? (i := 8) rfl))))
theorem cd_48_239 : mt_cd 48 239 = some (.invokevirtual 157) := mt_cd_of (q := (239, .invokevirtual 157, 3)) mq_48 ci_48 (List.mem_append_right _ (List.mem_append_right _ ((show _ ∈ my_48_2 from List.mem_of_getElem? (i := 9) rfl))))
theorem cd_48_242 : mt_cd 48 242 = some (.iastore) := mt_cd_of (q := (242, .iastore, 1)) mq_48 ci_48 (List.mem_append_right _ (List.mem_append_right _ ((show _ ∈ my_48_2 from List.mem_of_getElem? (i := 10) rfl))))
theorem cd_48_243 : mt_cd 48 243 = some (.aload_n 0) := mt_cd_of (q := (243, .aload_n 0, 1)) mq_48 ci_48 (List.mem_append_right _ (List.mem_append_right _ ((show _ ∈ my_48_2 from List.mem_of_getElem? (i := 11) rfl))))
theorem cd_48_244 : mt_cd 48 244 = some (.getfield 19) := mt_cd_of (q := (244, .getfield 19, 3)) mq_48 ci_48 (List.mem_append_right _ (List.mem_append_right _ ((show _ ∈ my_48_2 from List.mem_of_getElem? (i := 12) rfl))))
theorem cd_48_247 : mt_cd 48 247 = some (.getfield 144) := mt_cd_of (q := (247, .getfield 144, 3)) mq_48 ci_48 (List.mem_append_right _ (List.mem_append_right _ ((show _ ∈ my_48_2 from List.mem_of_getElem? (i := 13) rfl))))
theorem cd_48_250 : mt_cd 48 250 = some (.iload 4) := mt_cd_of (q := (250, .iload 4, 2)) mq_48 ci_48 (List.mem_append_right _ (List.mem_append_right _ ((show _ ∈ my_48_2 from List.mem_of_getElem? (i := 14) rfl))))
theorem cd_48_252 : mt_cd 48 252 = some (.aload_n 0) := mt_cd_of (q := (252, .aload_n 0, 1)) mq_48 ci_48 (List.mem_append_right _ (List.mem_append_right _ ((show _ ∈ my_48_2 from List.mem_of_getElem? (i := 15) rfl))))
theorem cd_48_253 : mt_cd 48 253 = some (.getfield 19) := mt_cd_of (q := (253, .getfield 19, 3)) mq_48 ci_48 (List.mem_append_right _ (List.mem_append_right _ ((show _ ∈ my_48_2 from List.mem_of_getElem? (i := 16) rfl))))
theorem cd_48_256 : mt_cd 48 256 = some (.getfield 87) := mt_cd_of (q := (256, .getfield 87, 3)) mq_48 ci_48 (List.mem_append_right _ (List.mem_append_right _ ((show _ ∈ my_48_2 from List.mem_of_getElem? (i := 17) rfl))))
theorem cd_48_259 : mt_cd 48 259 = some (.iastore) := mt_cd_of (q := (259, .iastore, 1)) mq_48 ci_48 (List.mem_append_right _ (List.mem_append_right _ ((show _ ∈ my_48_2 from List.mem_of_getElem? (i := 18) rfl))))
theorem cd_48_260 : mt_cd 48 260 = some (.iload 4) := mt_cd_of (q := (260, .iload 4, 2)) mq_48 ci_48 (List.mem_append_right _ (List.mem_append_right _ ((show _ ∈ my_48_2 from List.mem_of_getElem? (i := 19) rfl))))
theorem cd_48_262 : mt_cd 48 262 = some (.ireturn) := mt_cd_of (q := (262, .ireturn, 1)) mq_48 ci_48 (List.mem_append_right _ (List.mem_append_right _ ((show _ ∈ my_48_2 from List.mem_of_getElem? (i := 20) rfl))))
theorem b_48_0 {d : Nat} {Q : (Option Value ⊕ Nat) → mi_H → Prop} (n sl : Nat) (f : Nat → mi_C) {l1 : Nat} {l2 : Int32} {o3 : Option Value} {o4 : Option Value} {o5 : Option Value} (h6 : 100 < l2 → mi_W d 48 11 [some (.ref l1), some (.int l2), o3, o4, o5] [.ref l1] (n, sl, f) Q) (h7 : ¬ (100 < l2) → mi_W d 48 7 [some (.ref l1), some (.int l2), o3, o4, o5] [.ref l1] (n, sl, f) Q) : mi_W d 48 0 [some (.ref l1), some (.int l2), o3, o4, o5] [] (n, sl, f) Q := by
  refine w_aload_n cd_48_0 rfl ?_
  refine w_iload_n cd_48_1 rfl ?_
  refine w_bipush (v := 100) cd_48_2 (by decide) ?_
  exact w_if_icmpgt cd_48_4 (by decide) h6 h7
theorem b_48_7 {d : Nat} {Q : (Option Value ⊕ Nat) → mi_H → Prop} (n sl : Nat) (f : Nat → mi_C) {l1 : Nat} {l2 : Int32} {o3 : Option Value} {o4 : Option Value} {o5 : Option Value} {s6 : Nat} (h7 : mi_W d 48 12 [some (.ref l1), some (.int l2), o3, o4, o5] [.int 1, .ref s6] (n, sl, f) Q) : mi_W d 48 7 [some (.ref l1), some (.int l2), o3, o4, o5] [.ref s6] (n, sl, f) Q := by
  refine w_iconst (v := 1) cd_48_7 (by decide) ?_
  exact w_goto cd_48_8 (by decide) h7
theorem b_48_11 {d : Nat} {Q : (Option Value ⊕ Nat) → mi_H → Prop} (n sl : Nat) (f : Nat → mi_C) {l1 : Nat} {l2 : Int32} {o3 : Option Value} {o4 : Option Value} {o5 : Option Value} {s6 : Nat} (h7 : mi_W d 48 12 [some (.ref l1), some (.int l2), o3, o4, o5] [.int 0, .ref s6] (n, sl, f) Q) : mi_W d 48 11 [some (.ref l1), some (.int l2), o3, o4, o5] [.ref s6] (n, sl, f) Q := by
  refine w_iconst (v := 0) cd_48_11 (by decide) ?_
  exact h7
theorem b_48_12 {d : Nat} {Q : (Option Value ⊕ Nat) → mi_H → Prop} (n sl : Nat) (f : Nat → mi_C) {l1 : Nat} {l2 : Int32} {o3 : Option Value} {o4 : Option Value} {o5 : Option Value} {s6 : Int32} {s7 : Nat} {fs8 : List Value} (h9 : f s7 = .inr (3, fs8)) (h10 : s7 < n) (h11 : mi_W d 38 0 (mi_en 2 [.ref s7, .int s6]) [] (n, sl, f) (mi_Kc d 48 12 [some (.ref l1), some (.int l2), o3, o4, o5] [] Q)) : mi_W (d + 1) 48 12 [some (.ref l1), some (.int l2), o3, o4, o5] [.int s6, .ref s7] (n, sl, f) Q := by
  exact w_invokevirtual cd_48_12 (show mt_m 3 70 = some (38, 0) by decide +kernel) (rest := []) rfl (as := [.ref s7, .int s6]) rfl h9 (Or.inl h10) ⟨Nat.le_of_ble_eq_true rfl, Nat.le_of_ble_eq_true rfl, Nat.le_of_ble_eq_true rfl⟩ h11
theorem b_48_15 {d : Nat} {Q : (Option Value ⊕ Nat) → mi_H → Prop} (n sl : Nat) (f : Nat → mi_C) {l1 : Nat} {l2 : Int32} {o3 : Option Value} {o4 : Option Value} {o5 : Option Value} {fs6 : List Value} {x9 : Nat} {fs11 : List Value} {x14 : Int32} (h7 : f l1 = .inr (3, fs6)) (h8 : l1 < n) (h10 : fs6[0]? = some (.ref x9)) (h12 : f x9 = .inr (1, fs11)) (h13 : x9 < n) (h15 : fs11[2]? = some (.int x14)) (h16 : ¬ x14 = 24 → mi_W d 48 50 [some (.ref l1), some (.int l2), o3, o4, o5] [] (n, sl, f) Q) (h17 : ¬ (¬ x14 = 24) → mi_W d 48 27 [some (.ref l1), some (.int l2), o3, o4, o5] [] (n, sl, f) Q) : mi_W d 48 15 [some (.ref l1), some (.int l2), o3, o4, o5] [] (n, sl, f) Q := by
  refine w_aload_n cd_48_15 rfl ?_
  refine w_getfield cd_48_16 (show mt_f 3 15 = some (3, 0) by decide +kernel) h7 h8 h10 ?_
  refine w_getfield cd_48_19 (show mt_f 3 67 = some (1, 2) by decide +kernel) h12 h13 h15 ?_
  refine w_bipush (v := 24) cd_48_22 (by decide) ?_
  exact w_if_icmpne cd_48_24 (by decide) h16 h17
theorem b_48_27 {d : Nat} {Q : (Option Value ⊕ Nat) → mi_H → Prop} (n sl : Nat) (f : Nat → mi_C) {l1 : Nat} {l2 : Int32} {o3 : Option Value} {o4 : Option Value} {o5 : Option Value} {fs6 : List Value} {x9 : Nat} {fs11 : List Value} (h7 : f l1 = .inr (3, fs6)) (h8 : l1 < n) (h10 : fs6[0]? = some (.ref x9)) (h12 : f x9 = .inr (1, fs11)) (h13 : x9 < n) (h14 : mi_W d 24 0 (mi_en 2 [.ref x9]) [] (n, sl, f) (mi_Kc d 48 31 [some (.ref l1), some (.int l2), o3, o4, o5] [] Q)) : mi_W (d + 1) 48 27 [some (.ref l1), some (.int l2), o3, o4, o5] [] (n, sl, f) Q := by
  refine w_aload_n cd_48_27 rfl ?_
  refine w_getfield cd_48_28 (show mt_f 3 15 = some (3, 0) by decide +kernel) h7 h8 h10 ?_
  exact w_invokevirtual cd_48_31 (show mt_m 3 84 = some (24, 0) by decide +kernel) (rest := []) rfl (as := [.ref x9]) rfl h12 (Or.inl h13) ⟨Nat.le_of_ble_eq_true rfl, Nat.le_of_ble_eq_true rfl, Nat.le_of_ble_eq_true rfl⟩ h14
theorem b_48_34 {d : Nat} {Q : (Option Value ⊕ Nat) → mi_H → Prop} (n sl : Nat) (f : Nat → mi_C) {l1 : Nat} {l2 : Int32} {o3 : Option Value} {o4 : Option Value} {o5 : Option Value} {fs6 : List Value} (h7 : f l1 = .inr (3, fs6)) (h8 : l1 < n) (h9 : mi_W d 48 0 (mi_en 5 [.ref l1, .int (l2 + 1)]) [] (n, sl, f) (mi_Kc d 48 38 [some (.ref l1), some (.int l2), o3, o4, o5] [] Q)) : mi_W (d + 1) 48 34 [some (.ref l1), some (.int l2), o3, o4, o5] [] (n, sl, f) Q := by
  refine w_aload_n cd_48_34 rfl ?_
  refine w_iload_n cd_48_35 rfl ?_
  refine w_iconst (v := 1) cd_48_36 (by decide) ?_
  refine w_iadd cd_48_37 ?_
  exact w_invokevirtual cd_48_38 (show mt_m 3 135 = some (48, 0) by decide +kernel) (rest := []) rfl (as := [.ref l1, .int (l2 + 1)]) rfl h7 (Or.inl h8) ⟨Nat.le_of_ble_eq_true rfl, Nat.le_of_ble_eq_true rfl, Nat.le_of_ble_eq_true rfl⟩ h9
theorem b_48_41 {d : Nat} {Q : (Option Value ⊕ Nat) → mi_H → Prop} (n sl : Nat) (f : Nat → mi_C) {l1 : Nat} {l2 : Int32} {o3 : Option Value} {o4 : Option Value} {o5 : Option Value} {s6 : Int32} {fs7 : List Value} (h8 : f l1 = .inr (3, fs7)) (h9 : l1 < n) (h10 : mi_W d 39 0 (mi_en 2 [.ref l1, .int 25]) [] (n, sl, f) (mi_Kc d 48 45 [some (.ref l1), some (.int l2), some (.int s6), o4, o5] [] Q)) : mi_W (d + 1) 48 41 [some (.ref l1), some (.int l2), o3, o4, o5] [.int s6] (n, sl, f) Q := by
  refine w_istore_n (ls' := [some (.ref l1), some (.int l2), some (.int s6), o4, o5]) cd_48_41 (Nat.le_of_ble_eq_true rfl) rfl ?_
  refine w_aload_n cd_48_42 rfl ?_
  refine w_bipush (v := 25) cd_48_43 (by decide) ?_
  exact w_invokevirtual cd_48_45 (show mt_m 3 99 = some (39, 0) by decide +kernel) (rest := []) rfl (as := [.ref l1, .int 25]) rfl h8 (Or.inl h9) ⟨Nat.le_of_ble_eq_true rfl, Nat.le_of_ble_eq_true rfl, Nat.le_of_ble_eq_true rfl⟩ h10
theorem b_48_48 {d : Nat} {Q : (Option Value ⊕ Nat) → mi_H → Prop} (n sl : Nat) (f : Nat → mi_C) {l1 : Nat} {l2 : Int32} {l3 : Int32} {o4 : Option Value} {o5 : Option Value} (h6 : Q (.inl (some (.int l3))) (n, sl, f)) : mi_W d 48 48 [some (.ref l1), some (.int l2), some (.int l3), o4, o5] [] (n, sl, f) Q := by
  refine w_iload_n cd_48_48 rfl ?_
  exact w_ireturn_i cd_48_49 (by decide +kernel) h6
theorem b_48_50 {d : Nat} {Q : (Option Value ⊕ Nat) → mi_H → Prop} (n sl : Nat) (f : Nat → mi_C) {l1 : Nat} {l2 : Int32} {o3 : Option Value} {o4 : Option Value} {o5 : Option Value} {fs6 : List Value} {x9 : Nat} {fs11 : List Value} {x14 : Int32} (h7 : f l1 = .inr (3, fs6)) (h8 : l1 < n) (h10 : fs6[0]? = some (.ref x9)) (h12 : f x9 = .inr (1, fs11)) (h13 : x9 < n) (h15 : fs11[2]? = some (.int x14)) (h16 : x14 < 32 → mi_W d 48 74 [some (.ref l1), some (.int l2), some (.int x14), o4, o5] [] (n, sl, f) Q) (h17 : ¬ (x14 < 32) → mi_W d 48 64 [some (.ref l1), some (.int l2), some (.int x14), o4, o5] [] (n, sl, f) Q) : mi_W d 48 50 [some (.ref l1), some (.int l2), o3, o4, o5] [] (n, sl, f) Q := by
  refine w_aload_n cd_48_50 rfl ?_
  refine w_getfield cd_48_51 (show mt_f 3 15 = some (3, 0) by decide +kernel) h7 h8 h10 ?_
  refine w_getfield cd_48_54 (show mt_f 3 67 = some (1, 2) by decide +kernel) h12 h13 h15 ?_
  refine w_istore_n (ls' := [some (.ref l1), some (.int l2), some (.int x14), o4, o5]) cd_48_57 (Nat.le_of_ble_eq_true rfl) rfl ?_
  refine w_iload_n cd_48_58 rfl ?_
  refine w_bipush (v := 32) cd_48_59 (by decide) ?_
  exact w_if_icmplt cd_48_61 (by decide) h16 h17
theorem b_48_64 {d : Nat} {Q : (Option Value ⊕ Nat) → mi_H → Prop} (n sl : Nat) (f : Nat → mi_C) {l1 : Nat} {l2 : Int32} {l3 : Int32} {o4 : Option Value} {o5 : Option Value} (h6 : 36 < l3 → mi_W d 48 74 [some (.ref l1), some (.int l2), some (.int l3), o4, o5] [] (n, sl, f) Q) (h7 : ¬ (36 < l3) → mi_W d 48 70 [some (.ref l1), some (.int l2), some (.int l3), o4, o5] [] (n, sl, f) Q) : mi_W d 48 64 [some (.ref l1), some (.int l2), some (.int l3), o4, o5] [] (n, sl, f) Q := by
  refine w_iload_n cd_48_64 rfl ?_
  refine w_bipush (v := 36) cd_48_65 (by decide) ?_
  exact w_if_icmpgt cd_48_67 (by decide) h6 h7
theorem b_48_70 {d : Nat} {Q : (Option Value ⊕ Nat) → mi_H → Prop} (n sl : Nat) (f : Nat → mi_C) {l1 : Nat} {l2 : Int32} {l3 : Int32} {o4 : Option Value} {o5 : Option Value} (h6 : mi_W d 48 75 [some (.ref l1), some (.int l2), some (.int l3), o4, o5] [.int 1] (n, sl, f) Q) : mi_W d 48 70 [some (.ref l1), some (.int l2), some (.int l3), o4, o5] [] (n, sl, f) Q := by
  refine w_iconst (v := 1) cd_48_70 (by decide) ?_
  exact w_goto cd_48_71 (by decide) h6
theorem b_48_74 {d : Nat} {Q : (Option Value ⊕ Nat) → mi_H → Prop} (n sl : Nat) (f : Nat → mi_C) {l1 : Nat} {l2 : Int32} {l3 : Int32} {o4 : Option Value} {o5 : Option Value} (h6 : mi_W d 48 75 [some (.ref l1), some (.int l2), some (.int l3), o4, o5] [.int 0] (n, sl, f) Q) : mi_W d 48 74 [some (.ref l1), some (.int l2), some (.int l3), o4, o5] [] (n, sl, f) Q := by
  refine w_iconst (v := 0) cd_48_74 (by decide) ?_
  exact h6
theorem b_48_75 {d : Nat} {Q : (Option Value ⊕ Nat) → mi_H → Prop} (n sl : Nat) (f : Nat → mi_C) {l1 : Nat} {l2 : Int32} {l3 : Int32} {o4 : Option Value} {o5 : Option Value} {s6 : Int32} (h7 : ¬ s6 = (0 : Int32) → mi_W d 48 93 [some (.ref l1), some (.int l2), some (.int l3), some (.int s6), o5] [.ref l1] (n, sl, f) Q) (h8 : ¬ (¬ s6 = (0 : Int32)) → mi_W d 48 81 [some (.ref l1), some (.int l2), some (.int l3), some (.int s6), o5] [.ref l1] (n, sl, f) Q) : mi_W d 48 75 [some (.ref l1), some (.int l2), some (.int l3), o4, o5] [.int s6] (n, sl, f) Q := by
  refine w_istore_n (ls' := [some (.ref l1), some (.int l2), some (.int l3), some (.int s6), o5]) cd_48_75 (Nat.le_of_ble_eq_true rfl) rfl ?_
  refine w_aload_n cd_48_76 rfl ?_
  refine w_iload_n cd_48_77 rfl ?_
  exact w_ifne cd_48_78 (by decide) h7 h8
theorem b_48_81 {d : Nat} {Q : (Option Value ⊕ Nat) → mi_H → Prop} (n sl : Nat) (f : Nat → mi_C) {l1 : Nat} {l2 : Int32} {l3 : Int32} {l4 : Int32} {o5 : Option Value} {s6 : Nat} (h7 : l3 < 18 → mi_W d 48 97 [some (.ref l1), some (.int l2), some (.int l3), some (.int l4), o5] [.ref s6] (n, sl, f) Q) (h8 : ¬ (l3 < 18) → mi_W d 48 87 [some (.ref l1), some (.int l2), some (.int l3), some (.int l4), o5] [.ref s6] (n, sl, f) Q) : mi_W d 48 81 [some (.ref l1), some (.int l2), some (.int l3), some (.int l4), o5] [.ref s6] (n, sl, f) Q := by
  refine w_iload_n cd_48_81 rfl ?_
  refine w_bipush (v := 18) cd_48_82 (by decide) ?_
  exact w_if_icmplt cd_48_84 (by decide) h7 h8
theorem b_48_87 {d : Nat} {Q : (Option Value ⊕ Nat) → mi_H → Prop} (n sl : Nat) (f : Nat → mi_C) {l1 : Nat} {l2 : Int32} {l3 : Int32} {l4 : Int32} {o5 : Option Value} {s6 : Nat} (h7 : 23 < l3 → mi_W d 48 97 [some (.ref l1), some (.int l2), some (.int l3), some (.int l4), o5] [.ref s6] (n, sl, f) Q) (h8 : ¬ (23 < l3) → mi_W d 48 93 [some (.ref l1), some (.int l2), some (.int l3), some (.int l4), o5] [.ref s6] (n, sl, f) Q) : mi_W d 48 87 [some (.ref l1), some (.int l2), some (.int l3), some (.int l4), o5] [.ref s6] (n, sl, f) Q := by
  refine w_iload_n cd_48_87 rfl ?_
  refine w_bipush (v := 23) cd_48_88 (by decide) ?_
  exact w_if_icmpgt cd_48_90 (by decide) h7 h8
theorem b_48_93 {d : Nat} {Q : (Option Value ⊕ Nat) → mi_H → Prop} (n sl : Nat) (f : Nat → mi_C) {l1 : Nat} {l2 : Int32} {l3 : Int32} {l4 : Int32} {o5 : Option Value} {s6 : Nat} (h7 : mi_W d 48 98 [some (.ref l1), some (.int l2), some (.int l3), some (.int l4), o5] [.int 1, .ref s6] (n, sl, f) Q) : mi_W d 48 93 [some (.ref l1), some (.int l2), some (.int l3), some (.int l4), o5] [.ref s6] (n, sl, f) Q := by
  refine w_iconst (v := 1) cd_48_93 (by decide) ?_
  exact w_goto cd_48_94 (by decide) h7
theorem b_48_97 {d : Nat} {Q : (Option Value ⊕ Nat) → mi_H → Prop} (n sl : Nat) (f : Nat → mi_C) {l1 : Nat} {l2 : Int32} {l3 : Int32} {l4 : Int32} {o5 : Option Value} {s6 : Nat} (h7 : mi_W d 48 98 [some (.ref l1), some (.int l2), some (.int l3), some (.int l4), o5] [.int 0, .ref s6] (n, sl, f) Q) : mi_W d 48 97 [some (.ref l1), some (.int l2), some (.int l3), some (.int l4), o5] [.ref s6] (n, sl, f) Q := by
  refine w_iconst (v := 0) cd_48_97 (by decide) ?_
  exact h7
theorem b_48_98 {d : Nat} {Q : (Option Value ⊕ Nat) → mi_H → Prop} (n sl : Nat) (f : Nat → mi_C) {l1 : Nat} {l2 : Int32} {l3 : Int32} {l4 : Int32} {o5 : Option Value} {s6 : Int32} {s7 : Nat} {fs8 : List Value} (h9 : f s7 = .inr (3, fs8)) (h10 : s7 < n) (h11 : mi_W d 38 0 (mi_en 2 [.ref s7, .int s6]) [] (n, sl, f) (mi_Kc d 48 98 [some (.ref l1), some (.int l2), some (.int l3), some (.int l4), o5] [] Q)) : mi_W (d + 1) 48 98 [some (.ref l1), some (.int l2), some (.int l3), some (.int l4), o5] [.int s6, .ref s7] (n, sl, f) Q := by
  exact w_invokevirtual cd_48_98 (show mt_m 3 70 = some (38, 0) by decide +kernel) (rest := []) rfl (as := [.ref s7, .int s6]) rfl h9 (Or.inl h10) ⟨Nat.le_of_ble_eq_true rfl, Nat.le_of_ble_eq_true rfl, Nat.le_of_ble_eq_true rfl⟩ h11
theorem b_48_101 {d : Nat} {Q : (Option Value ⊕ Nat) → mi_H → Prop} (n sl : Nat) (f : Nat → mi_C) {l1 : Nat} {l2 : Int32} {l3 : Int32} {l4 : Int32} {o5 : Option Value} {fs6 : List Value} (h7 : f l1 = .inr (3, fs6)) (h8 : l1 < n) (h9 : mi_W d 40 0 (mi_en 2 [.ref l1]) [] (n, sl, f) (mi_Kc d 48 102 [some (.ref l1), some (.int l2), some (.int l3), some (.int l4), o5] [] Q)) : mi_W (d + 1) 48 101 [some (.ref l1), some (.int l2), some (.int l3), some (.int l4), o5] [] (n, sl, f) Q := by
  refine w_aload_n cd_48_101 rfl ?_
  exact w_invokevirtual cd_48_102 (show mt_m 3 102 = some (40, 0) by decide +kernel) (rest := []) rfl (as := [.ref l1]) rfl h7 (Or.inl h8) ⟨Nat.le_of_ble_eq_true rfl, Nat.le_of_ble_eq_true rfl, Nat.le_of_ble_eq_true rfl⟩ h9
theorem b_48_105 {d : Nat} {Q : (Option Value ⊕ Nat) → mi_H → Prop} (n sl : Nat) (f : Nat → mi_C) {l1 : Nat} {l2 : Int32} {l3 : Int32} {l4 : Int32} {o5 : Option Value} {s6 : Int32} (h7 : l4 = (0 : Int32) → mi_W d 48 148 [some (.ref l1), some (.int l2), some (.int l3), some (.int l4), some (.int s6)] [] (n, sl, f) Q) (h8 : ¬ (l4 = (0 : Int32)) → mi_W d 48 111 [some (.ref l1), some (.int l2), some (.int l3), some (.int l4), some (.int s6)] [] (n, sl, f) Q) : mi_W d 48 105 [some (.ref l1), some (.int l2), some (.int l3), some (.int l4), o5] [.int s6] (n, sl, f) Q := by
  refine w_istore (ls' := [some (.ref l1), some (.int l2), some (.int l3), some (.int l4), some (.int s6)]) cd_48_105 (Nat.le_of_ble_eq_true rfl) rfl ?_
  refine w_iload_n cd_48_107 rfl ?_
  exact w_ifeq cd_48_108 (by decide) h7 h8
theorem b_48_111 {d : Nat} {Q : (Option Value ⊕ Nat) → mi_H → Prop} (n sl : Nat) (f : Nat → mi_C) {l1 : Nat} {l2 : Int32} {l3 : Int32} {l4 : Int32} {l5 : Int32} {fs6 : List Value} {x9 : Nat} {fs11 : List Value} {x14 : Nat} {fs16 : List Value} (h7 : f l1 = .inr (3, fs6)) (h8 : l1 < n) (h10 : fs6[1]? = some (.ref x9)) (h12 : f x9 = .inr (2, fs11)) (h13 : x9 < n) (h15 : fs11[1]? = some (.ref x14)) (h17 : f l1 = .inr (3, fs16)) (h18 : l1 < n) (h19 : mi_W d 46 0 (mi_en 5 [.ref l1, .int (l2 + 1)]) [] (n, sl, f) (mi_Kc d 48 124 [some (.ref l1), some (.int l2), some (.int l3), some (.int l4), some (.int l5)] [.int l5, .ref x14] Q)) : mi_W (d + 1) 48 111 [some (.ref l1), some (.int l2), some (.int l3), some (.int l4), some (.int l5)] [] (n, sl, f) Q := by
  refine w_aload_n cd_48_111 rfl ?_
  refine w_getfield cd_48_112 (show mt_f 3 19 = some (3, 1) by decide +kernel) h7 h8 h10 ?_
  refine w_getfield cd_48_115 (show mt_f 3 109 = some (2, 1) by decide +kernel) h12 h13 h15 ?_
  refine w_iload cd_48_118 rfl ?_
  refine w_aload_n cd_48_120 rfl ?_
  refine w_iload_n cd_48_121 rfl ?_
  refine w_iconst (v := 1) cd_48_122 (by decide) ?_
  refine w_iadd cd_48_123 ?_
  exact w_invokevirtual cd_48_124 (show mt_m 3 113 = some (46, 0) by decide +kernel) (rest := [.int l5, .ref x14]) rfl (as := [.ref l1, .int (l2 + 1)]) rfl h17 (Or.inl h18) ⟨Nat.le_of_ble_eq_true rfl, Nat.le_of_ble_eq_true rfl, Nat.le_of_ble_eq_true rfl⟩ h19
theorem b_48_127 {d : Nat} {Q : (Option Value ⊕ Nat) → mi_H → Prop} (n sl : Nat) (f : Nat → mi_C) {l1 : Nat} {l2 : Int32} {l3 : Int32} {l4 : Int32} {l5 : Int32} {s6 : Int32} {s7 : Int32} {s8 : Nat} (m9 i9 : Nat) (g9 : Nat → Int32) {fs13 : List Value} {x16 : Nat} {fs18 : List Value} {x21 : Nat} {fs23 : List Value} (h10 : f s8 = .inl (0, m9, .inl g9)) (h11 : s8 < n) (h12 : mi_ix s7 m9 i9) (h14 : (va_up f s8 (.inl (0, m9, .inl (upd g9 i9 s6)))) l1 = .inr (3, fs13)) (h15 : l1 < n) (h17 : fs13[1]? = some (.ref x16)) (h19 : (va_up f s8 (.inl (0, m9, .inl (upd g9 i9 s6)))) x16 = .inr (2, fs18)) (h20 : x16 < n) (h22 : fs18[3]? = some (.ref x21)) (h24 : (va_up f s8 (.inl (0, m9, .inl (upd g9 i9 s6)))) l1 = .inr (3, fs23)) (h25 : l1 < n) (h26 : mi_W d 46 0 (mi_en 5 [.ref l1, .int (l2 + 1)]) [] (n, sl, (va_up f s8 (.inl (0, m9, .inl (upd g9 i9 s6))))) (mi_Kc d 48 141 [some (.ref l1), some (.int l2), some (.int l3), some (.int l4), some (.int l5)] [.int l5, .ref x21] Q)) : mi_W (d + 1) 48 127 [some (.ref l1), some (.int l2), some (.int l3), some (.int l4), some (.int l5)] [.int s6, .int s7, .ref s8] (n, sl, f) Q := by
  refine w_iastore cd_48_127 h10 h11 h12 ?_
  refine w_aload_n cd_48_128 rfl ?_
  refine w_getfield cd_48_129 (show mt_f 3 19 = some (3, 1) by decide +kernel) h14 h15 h17 ?_
  refine w_getfield cd_48_132 (show mt_f 3 141 = some (2, 3) by decide +kernel) h19 h20 h22 ?_
  refine w_iload cd_48_135 rfl ?_
  refine w_aload_n cd_48_137 rfl ?_
  refine w_iload_n cd_48_138 rfl ?_
  refine w_iconst (v := 1) cd_48_139 (by decide) ?_
  refine w_iadd cd_48_140 ?_
  exact w_invokevirtual cd_48_141 (show mt_m 3 113 = some (46, 0) by decide +kernel) (rest := [.int l5, .ref x21]) rfl (as := [.ref l1, .int (l2 + 1)]) rfl h24 (Or.inl h25) ⟨Nat.le_of_ble_eq_true rfl, Nat.le_of_ble_eq_true rfl, Nat.le_of_ble_eq_true rfl⟩ h26
theorem b_48_144 {d : Nat} {Q : (Option Value ⊕ Nat) → mi_H → Prop} (n sl : Nat) (f : Nat → mi_C) {l1 : Nat} {l2 : Int32} {l3 : Int32} {l4 : Int32} {l5 : Int32} {s6 : Int32} {s7 : Int32} {s8 : Nat} (m9 i9 : Nat) (g9 : Nat → Int32) (h10 : f s8 = .inl (0, m9, .inl g9)) (h11 : s8 < n) (h12 : mi_ix s7 m9 i9) (h13 : mi_W d 48 243 [some (.ref l1), some (.int l2), some (.int l3), some (.int l4), some (.int l5)] [] (n, sl, (va_up f s8 (.inl (0, m9, .inl (upd g9 i9 s6))))) Q) : mi_W d 48 144 [some (.ref l1), some (.int l2), some (.int l3), some (.int l4), some (.int l5)] [.int s6, .int s7, .ref s8] (n, sl, f) Q := by
  refine w_iastore cd_48_144 h10 h11 h12 ?_
  exact w_goto cd_48_145 (by decide) h13
theorem b_48_148 {d : Nat} {Q : (Option Value ⊕ Nat) → mi_H → Prop} (n sl : Nat) (f : Nat → mi_C) {l1 : Nat} {l2 : Int32} {l3 : Int32} {l4 : Int32} {l5 : Int32} (h6 : l3 = 20 → mi_W d 48 160 [some (.ref l1), some (.int l2), some (.int l3), some (.int l4), some (.int l5)] [] (n, sl, f) Q) (h7 : ¬ (l3 = 20) → mi_W d 48 154 [some (.ref l1), some (.int l2), some (.int l3), some (.int l4), some (.int l5)] [] (n, sl, f) Q) : mi_W d 48 148 [some (.ref l1), some (.int l2), some (.int l3), some (.int l4), some (.int l5)] [] (n, sl, f) Q := by
  refine w_iload_n cd_48_148 rfl ?_
  refine w_bipush (v := 20) cd_48_149 (by decide) ?_
  exact w_if_icmpeq cd_48_151 (by decide) h6 h7
theorem b_48_154 {d : Nat} {Q : (Option Value ⊕ Nat) → mi_H → Prop} (n sl : Nat) (f : Nat → mi_C) {l1 : Nat} {l2 : Int32} {l3 : Int32} {l4 : Int32} {l5 : Int32} (h6 : ¬ l3 = 21 → mi_W d 48 197 [some (.ref l1), some (.int l2), some (.int l3), some (.int l4), some (.int l5)] [] (n, sl, f) Q) (h7 : ¬ (¬ l3 = 21) → mi_W d 48 160 [some (.ref l1), some (.int l2), some (.int l3), some (.int l4), some (.int l5)] [] (n, sl, f) Q) : mi_W d 48 154 [some (.ref l1), some (.int l2), some (.int l3), some (.int l4), some (.int l5)] [] (n, sl, f) Q := by
  refine w_iload_n cd_48_154 rfl ?_
  refine w_bipush (v := 21) cd_48_155 (by decide) ?_
  exact w_if_icmpne cd_48_157 (by decide) h6 h7
theorem b_48_160 {d : Nat} {Q : (Option Value ⊕ Nat) → mi_H → Prop} (n sl : Nat) (f : Nat → mi_C) {l1 : Nat} {l2 : Int32} {l3 : Int32} {l4 : Int32} {l5 : Int32} {fs6 : List Value} {x9 : Nat} {fs11 : List Value} {x14 : Nat} {fs16 : List Value} (h7 : f l1 = .inr (3, fs6)) (h8 : l1 < n) (h10 : fs6[1]? = some (.ref x9)) (h12 : f x9 = .inr (2, fs11)) (h13 : x9 < n) (h15 : fs11[1]? = some (.ref x14)) (h17 : f l1 = .inr (3, fs16)) (h18 : l1 < n) (h19 : mi_W d 48 0 (mi_en 5 [.ref l1, .int (l2 + 1)]) [] (n, sl, f) (mi_Kc d 48 173 [some (.ref l1), some (.int l2), some (.int l3), some (.int l4), some (.int l5)] [.int l5, .ref x14] Q)) : mi_W (d + 1) 48 160 [some (.ref l1), some (.int l2), some (.int l3), some (.int l4), some (.int l5)] [] (n, sl, f) Q := by
  refine w_aload_n cd_48_160 rfl ?_
  refine w_getfield cd_48_161 (show mt_f 3 19 = some (3, 1) by decide +kernel) h7 h8 h10 ?_
  refine w_getfield cd_48_164 (show mt_f 3 109 = some (2, 1) by decide +kernel) h12 h13 h15 ?_
  refine w_iload cd_48_167 rfl ?_
  refine w_aload_n cd_48_169 rfl ?_
  refine w_iload_n cd_48_170 rfl ?_
  refine w_iconst (v := 1) cd_48_171 (by decide) ?_
  refine w_iadd cd_48_172 ?_
  exact w_invokevirtual cd_48_173 (show mt_m 3 135 = some (48, 0) by decide +kernel) (rest := [.int l5, .ref x14]) rfl (as := [.ref l1, .int (l2 + 1)]) rfl h17 (Or.inl h18) ⟨Nat.le_of_ble_eq_true rfl, Nat.le_of_ble_eq_true rfl, Nat.le_of_ble_eq_true rfl⟩ h19
theorem b_48_176 {d : Nat} {Q : (Option Value ⊕ Nat) → mi_H → Prop} (n sl : Nat) (f : Nat → mi_C) {l1 : Nat} {l2 : Int32} {l3 : Int32} {l4 : Int32} {l5 : Int32} {s6 : Int32} {s7 : Int32} {s8 : Nat} (m9 i9 : Nat) (g9 : Nat → Int32) {fs13 : List Value} {x16 : Nat} {fs18 : List Value} {x21 : Nat} {fs23 : List Value} (h10 : f s8 = .inl (0, m9, .inl g9)) (h11 : s8 < n) (h12 : mi_ix s7 m9 i9) (h14 : (va_up f s8 (.inl (0, m9, .inl (upd g9 i9 s6)))) l1 = .inr (3, fs13)) (h15 : l1 < n) (h17 : fs13[1]? = some (.ref x16)) (h19 : (va_up f s8 (.inl (0, m9, .inl (upd g9 i9 s6)))) x16 = .inr (2, fs18)) (h20 : x16 < n) (h22 : fs18[3]? = some (.ref x21)) (h24 : (va_up f s8 (.inl (0, m9, .inl (upd g9 i9 s6)))) l1 = .inr (3, fs23)) (h25 : l1 < n) (h26 : mi_W d 48 0 (mi_en 5 [.ref l1, .int (l2 + 1)]) [] (n, sl, (va_up f s8 (.inl (0, m9, .inl (upd g9 i9 s6))))) (mi_Kc d 48 190 [some (.ref l1), some (.int l2), some (.int l3), some (.int l4), some (.int l5)] [.int l5, .ref x21] Q)) : mi_W (d + 1) 48 176 [some (.ref l1), some (.int l2), some (.int l3), some (.int l4), some (.int l5)] [.int s6, .int s7, .ref s8] (n, sl, f) Q := by
  refine w_iastore cd_48_176 h10 h11 h12 ?_
  refine w_aload_n cd_48_177 rfl ?_
  refine w_getfield cd_48_178 (show mt_f 3 19 = some (3, 1) by decide +kernel) h14 h15 h17 ?_
  refine w_getfield cd_48_181 (show mt_f 3 141 = some (2, 3) by decide +kernel) h19 h20 h22 ?_
  refine w_iload cd_48_184 rfl ?_
  refine w_aload_n cd_48_186 rfl ?_
  refine w_iload_n cd_48_187 rfl ?_
  refine w_iconst (v := 1) cd_48_188 (by decide) ?_
  refine w_iadd cd_48_189 ?_
  exact w_invokevirtual cd_48_190 (show mt_m 3 135 = some (48, 0) by decide +kernel) (rest := [.int l5, .ref x21]) rfl (as := [.ref l1, .int (l2 + 1)]) rfl h24 (Or.inl h25) ⟨Nat.le_of_ble_eq_true rfl, Nat.le_of_ble_eq_true rfl, Nat.le_of_ble_eq_true rfl⟩ h26
theorem b_48_193 {d : Nat} {Q : (Option Value ⊕ Nat) → mi_H → Prop} (n sl : Nat) (f : Nat → mi_C) {l1 : Nat} {l2 : Int32} {l3 : Int32} {l4 : Int32} {l5 : Int32} {s6 : Int32} {s7 : Int32} {s8 : Nat} (m9 i9 : Nat) (g9 : Nat → Int32) (h10 : f s8 = .inl (0, m9, .inl g9)) (h11 : s8 < n) (h12 : mi_ix s7 m9 i9) (h13 : mi_W d 48 243 [some (.ref l1), some (.int l2), some (.int l3), some (.int l4), some (.int l5)] [] (n, sl, (va_up f s8 (.inl (0, m9, .inl (upd g9 i9 s6))))) Q) : mi_W d 48 193 [some (.ref l1), some (.int l2), some (.int l3), some (.int l4), some (.int l5)] [.int s6, .int s7, .ref s8] (n, sl, f) Q := by
  refine w_iastore cd_48_193 h10 h11 h12 ?_
  exact w_goto cd_48_194 (by decide) h13
theorem b_48_197 {d : Nat} {Q : (Option Value ⊕ Nat) → mi_H → Prop} (n sl : Nat) (f : Nat → mi_C) {l1 : Nat} {l2 : Int32} {l3 : Int32} {l4 : Int32} {l5 : Int32} (h6 : ¬ l3 = 22 → mi_W d 48 223 [some (.ref l1), some (.int l2), some (.int l3), some (.int l4), some (.int l5)] [] (n, sl, f) Q) (h7 : ¬ (¬ l3 = 22) → mi_W d 48 203 [some (.ref l1), some (.int l2), some (.int l3), some (.int l4), some (.int l5)] [] (n, sl, f) Q) : mi_W d 48 197 [some (.ref l1), some (.int l2), some (.int l3), some (.int l4), some (.int l5)] [] (n, sl, f) Q := by
  refine w_iload_n cd_48_197 rfl ?_
  refine w_bipush (v := 22) cd_48_198 (by decide) ?_
  exact w_if_icmpne cd_48_200 (by decide) h6 h7
theorem b_48_203 {d : Nat} {Q : (Option Value ⊕ Nat) → mi_H → Prop} (n sl : Nat) (f : Nat → mi_C) {l1 : Nat} {l2 : Int32} {l3 : Int32} {l4 : Int32} {l5 : Int32} {fs6 : List Value} {x9 : Nat} {fs11 : List Value} {x14 : Nat} {fs16 : List Value} (h7 : f l1 = .inr (3, fs6)) (h8 : l1 < n) (h10 : fs6[1]? = some (.ref x9)) (h12 : f x9 = .inr (2, fs11)) (h13 : x9 < n) (h15 : fs11[1]? = some (.ref x14)) (h17 : f l1 = .inr (3, fs16)) (h18 : l1 < n) (h19 : mi_W d 48 0 (mi_en 5 [.ref l1, .int (l2 + 1)]) [] (n, sl, f) (mi_Kc d 48 216 [some (.ref l1), some (.int l2), some (.int l3), some (.int l4), some (.int l5)] [.int l5, .ref x14] Q)) : mi_W (d + 1) 48 203 [some (.ref l1), some (.int l2), some (.int l3), some (.int l4), some (.int l5)] [] (n, sl, f) Q := by
  refine w_aload_n cd_48_203 rfl ?_
  refine w_getfield cd_48_204 (show mt_f 3 19 = some (3, 1) by decide +kernel) h7 h8 h10 ?_
  refine w_getfield cd_48_207 (show mt_f 3 109 = some (2, 1) by decide +kernel) h12 h13 h15 ?_
  refine w_iload cd_48_210 rfl ?_
  refine w_aload_n cd_48_212 rfl ?_
  refine w_iload_n cd_48_213 rfl ?_
  refine w_iconst (v := 1) cd_48_214 (by decide) ?_
  refine w_iadd cd_48_215 ?_
  exact w_invokevirtual cd_48_216 (show mt_m 3 135 = some (48, 0) by decide +kernel) (rest := [.int l5, .ref x14]) rfl (as := [.ref l1, .int (l2 + 1)]) rfl h17 (Or.inl h18) ⟨Nat.le_of_ble_eq_true rfl, Nat.le_of_ble_eq_true rfl, Nat.le_of_ble_eq_true rfl⟩ h19
theorem b_48_219 {d : Nat} {Q : (Option Value ⊕ Nat) → mi_H → Prop} (n sl : Nat) (f : Nat → mi_C) {l1 : Nat} {l2 : Int32} {l3 : Int32} {l4 : Int32} {l5 : Int32} {s6 : Int32} {s7 : Int32} {s8 : Nat} (m9 i9 : Nat) (g9 : Nat → Int32) (h10 : f s8 = .inl (0, m9, .inl g9)) (h11 : s8 < n) (h12 : mi_ix s7 m9 i9) (h13 : mi_W d 48 243 [some (.ref l1), some (.int l2), some (.int l3), some (.int l4), some (.int l5)] [] (n, sl, (va_up f s8 (.inl (0, m9, .inl (upd g9 i9 s6))))) Q) : mi_W d 48 219 [some (.ref l1), some (.int l2), some (.int l3), some (.int l4), some (.int l5)] [.int s6, .int s7, .ref s8] (n, sl, f) Q := by
  refine w_iastore cd_48_219 h10 h11 h12 ?_
  exact w_goto cd_48_220 (by decide) h13
theorem b_48_223 {d : Nat} {Q : (Option Value ⊕ Nat) → mi_H → Prop} (n sl : Nat) (f : Nat → mi_C) {l1 : Nat} {l2 : Int32} {l3 : Int32} {l4 : Int32} {l5 : Int32} (h6 : ¬ l3 = 23 → mi_W d 48 243 [some (.ref l1), some (.int l2), some (.int l3), some (.int l4), some (.int l5)] [] (n, sl, f) Q) (h7 : ¬ (¬ l3 = 23) → mi_W d 48 229 [some (.ref l1), some (.int l2), some (.int l3), some (.int l4), some (.int l5)] [] (n, sl, f) Q) : mi_W d 48 223 [some (.ref l1), some (.int l2), some (.int l3), some (.int l4), some (.int l5)] [] (n, sl, f) Q := by
  refine w_iload_n cd_48_223 rfl ?_
  refine w_bipush (v := 23) cd_48_224 (by decide) ?_
  exact w_if_icmpne cd_48_226 (by decide) h6 h7
theorem b_48_229 {d : Nat} {Q : (Option Value ⊕ Nat) → mi_H → Prop} (n sl : Nat) (f : Nat → mi_C) {l1 : Nat} {l2 : Int32} {l3 : Int32} {l4 : Int32} {l5 : Int32} {fs6 : List Value} {x9 : Nat} {fs11 : List Value} {x14 : Nat} {fs16 : List Value} (h7 : f l1 = .inr (3, fs6)) (h8 : l1 < n) (h10 : fs6[1]? = some (.ref x9)) (h12 : f x9 = .inr (2, fs11)) (h13 : x9 < n) (h15 : fs11[4]? = some (.ref x14)) (h17 : f l1 = .inr (3, fs16)) (h18 : l1 < n) (h19 : mi_W d 47 0 (mi_en 5 [.ref l1]) [] (n, sl, f) (mi_Kc d 48 239 [some (.ref l1), some (.int l2), some (.int l3), some (.int l4), some (.int l5)] [.int l5, .ref x14] Q)) : mi_W (d + 1) 48 229 [some (.ref l1), some (.int l2), some (.int l3), some (.int l4), some (.int l5)] [] (n, sl, f) Q := by
  refine w_aload_n cd_48_229 rfl ?_
  refine w_getfield cd_48_230 (show mt_f 3 19 = some (3, 1) by decide +kernel) h7 h8 h10 ?_
  refine w_getfield cd_48_233 (show mt_f 3 128 = some (2, 4) by decide +kernel) h12 h13 h15 ?_
  refine w_iload cd_48_236 rfl ?_
  refine w_aload_n cd_48_238 rfl ?_
  exact w_invokevirtual cd_48_239 (show mt_m 3 157 = some (47, 0) by decide +kernel) (rest := [.int l5, .ref x14]) rfl (as := [.ref l1]) rfl h17 (Or.inl h18) ⟨Nat.le_of_ble_eq_true rfl, Nat.le_of_ble_eq_true rfl, Nat.le_of_ble_eq_true rfl⟩ h19
theorem b_48_242 {d : Nat} {Q : (Option Value ⊕ Nat) → mi_H → Prop} (n sl : Nat) (f : Nat → mi_C) {l1 : Nat} {l2 : Int32} {l3 : Int32} {l4 : Int32} {l5 : Int32} {s6 : Int32} {s7 : Int32} {s8 : Nat} (m9 i9 : Nat) (g9 : Nat → Int32) (h10 : f s8 = .inl (0, m9, .inl g9)) (h11 : s8 < n) (h12 : mi_ix s7 m9 i9) (h13 : mi_W d 48 243 [some (.ref l1), some (.int l2), some (.int l3), some (.int l4), some (.int l5)] [] (n, sl, (va_up f s8 (.inl (0, m9, .inl (upd g9 i9 s6))))) Q) : mi_W d 48 242 [some (.ref l1), some (.int l2), some (.int l3), some (.int l4), some (.int l5)] [.int s6, .int s7, .ref s8] (n, sl, f) Q := by
  refine w_iastore cd_48_242 h10 h11 h12 ?_
  exact h13
theorem b_48_243 {d : Nat} {Q : (Option Value ⊕ Nat) → mi_H → Prop} (n sl : Nat) (f : Nat → mi_C) {l1 : Nat} {l2 : Int32} {l3 : Int32} {l4 : Int32} {l5 : Int32} {fs6 : List Value} {x9 : Nat} {fs11 : List Value} {x14 : Nat} {fs16 : List Value} {x19 : Nat} {fs21 : List Value} {x24 : Int32} (m26 i26 : Nat) (g26 : Nat → Int32) (h7 : f l1 = .inr (3, fs6)) (h8 : l1 < n) (h10 : fs6[1]? = some (.ref x9)) (h12 : f x9 = .inr (2, fs11)) (h13 : x9 < n) (h15 : fs11[7]? = some (.ref x14)) (h17 : f l1 = .inr (3, fs16)) (h18 : l1 < n) (h20 : fs16[1]? = some (.ref x19)) (h22 : f x19 = .inr (2, fs21)) (h23 : x19 < n) (h25 : fs21[11]? = some (.int x24)) (h27 : f x14 = .inl (0, m26, .inl g26)) (h28 : x14 < n) (h29 : mi_ix l5 m26 i26) (h30 : Q (.inl (some (.int l5))) (n, sl, (va_up f x14 (.inl (0, m26, .inl (upd g26 i26 x24)))))) : mi_W d 48 243 [some (.ref l1), some (.int l2), some (.int l3), some (.int l4), some (.int l5)] [] (n, sl, f) Q := by
  refine w_aload_n cd_48_243 rfl ?_
  refine w_getfield cd_48_244 (show mt_f 3 19 = some (3, 1) by decide +kernel) h7 h8 h10 ?_
  refine w_getfield cd_48_247 (show mt_f 3 144 = some (2, 7) by decide +kernel) h12 h13 h15 ?_
  refine w_iload cd_48_250 rfl ?_
  refine w_aload_n cd_48_252 rfl ?_
  refine w_getfield cd_48_253 (show mt_f 3 19 = some (3, 1) by decide +kernel) h17 h18 h20 ?_
  refine w_getfield cd_48_256 (show mt_f 3 87 = some (2, 11) by decide +kernel) h22 h23 h25 ?_
  refine w_iastore cd_48_259 h27 h28 h29 ?_
  refine w_iload cd_48_260 rfl ?_
  exact w_ireturn_i cd_48_262 (by decide +kernel) h30
/-! MarloweHost$Reader.readAction(III)I -/
set_option maxRecDepth 100000 in
theorem mq_49 : mt_q 49 = my_49 := rfl
set_option maxRecDepth 100000 in
theorem ci_49 : mt_inc 0 my_49.cd = true := by decide +kernel
theorem cd_49_0 : mt_cd 49 0 = some (.aload_n 0) := mt_cd_of (q := (0, .aload_n 0, 1)) mq_49 ci_49 (List.mem_append_left _ (show _ ∈ my_49_0 from List.mem_of_getElem? (i := 0) rfl))
theorem cd_49_1 : mt_cd 49 1 = some (.getfield 15) := mt_cd_of (q := (1, .getfield 15, 3)) mq_49 ci_49 (List.mem_append_left _ (show _ ∈ my_49_0 from List.mem_of_getElem? (i := 1) rfl))
theorem cd_49_4 : mt_cd 49 4 = some (.getfield 67) := mt_cd_of (q := (4, .getfield 67, 3)) mq_49 ci_49 (List.mem_append_left _ (show _ ∈ my_49_0 from List.mem_of_getElem? (i := 2) rfl))
theorem cd_49_7 : mt_cd 49 7 = some (.istore 4) := mt_cd_of (q := (7, .istore 4, 2)) mq_49 ci_49 (List.mem_append_left _ (show _ ∈ my_49_0 from List.mem_of_getElem? (i := 3) rfl))
theorem cd_49_9 : mt_cd 49 9 = some (.aload_n 0) := mt_cd_of (q := (9, .aload_n 0, 1)) mq_49 ci_49 (List.mem_append_left _ (show _ ∈ my_49_0 from List.mem_of_getElem? (i := 4) rfl))
theorem cd_49_10 : mt_cd 49 10 = some (.iload 4) := mt_cd_of (q := (10, .iload 4, 2)) mq_49 ci_49 (List.mem_append_left _ (show _ ∈ my_49_0 from List.mem_of_getElem? (i := 5) rfl))
theorem cd_49_12 : mt_cd 49 12 = some (.bipush 8) := mt_cd_of (q := (12, .bipush 8, 2)) mq_49 ci_49 (List.mem_append_left _ (show _ ∈ my_49_0 from List.mem_of_getElem? (i := 6) rfl))
theorem cd_49_14 : mt_cd 49 14 = some (.if_icmp .eq 17) := mt_cd_of (q := (14, .if_icmp .eq 17, 3)) mq_49 ci_49 (List.mem_append_left _ (show _ ∈ my_49_0 from List.mem_of_getElem? (i := 7) rfl))
theorem cd_49_17 : mt_cd 49 17 = some (.iload 4) := mt_cd_of (q := (17, .iload 4, 2)) mq_49 ci_49 (List.mem_append_left _ (show _ ∈ my_49_0 from List.mem_of_getElem? (i := 8) rfl))
theorem cd_49_19 : mt_cd 49 19 = some (.bipush 9) := mt_cd_of (q := (19, .bipush 9, 2)) mq_49 ci_49 (List.mem_append_left _ (show _ ∈ my_49_0 from List.mem_of_getElem? (i := 9) rfl))
theorem cd_49_21 : mt_cd 49 21 = some (.if_icmp .eq 10) := mt_cd_of (q := (21, .if_icmp .eq 10, 3)) mq_49 ci_49 (List.mem_append_left _ (show _ ∈ my_49_0 from List.mem_of_getElem? (i := 10) rfl))
theorem cd_49_24 : mt_cd 49 24 = some (.iload 4) := mt_cd_of (q := (24, .iload 4, 2)) mq_49 ci_49 (List.mem_append_left _ (show _ ∈ my_49_0 from List.mem_of_getElem? (i := 11) rfl))
theorem cd_49_26 : mt_cd 49 26 = some (.bipush 10) := mt_cd_of (q := (26, .bipush 10, 2)) mq_49 ci_49 (List.mem_append_left _ (show _ ∈ my_49_0 from List.mem_of_getElem? (i := 12) rfl))
theorem cd_49_28 : mt_cd 49 28 = some (.if_icmp .ne 7) := mt_cd_of (q := (28, .if_icmp .ne 7, 3)) mq_49 ci_49 (List.mem_append_left _ (show _ ∈ my_49_0 from List.mem_of_getElem? (i := 13) rfl))
theorem cd_49_31 : mt_cd 49 31 = some (.iconst 1) := mt_cd_of (q := (31, .iconst 1, 1)) mq_49 ci_49 (List.mem_append_left _ (show _ ∈ my_49_0 from List.mem_of_getElem? (i := 14) rfl))
theorem cd_49_32 : mt_cd 49 32 = some (.goto 4) := mt_cd_of (q := (32, .goto 4, 3)) mq_49 ci_49 (List.mem_append_left _ (show _ ∈ my_49_0 from List.mem_of_getElem? (i := 15) rfl))
theorem cd_49_35 : mt_cd 49 35 = some (.iconst 0) := mt_cd_of (q := (35, .iconst 0, 1)) mq_49 ci_49 (List.mem_append_left _ (show _ ∈ my_49_0 from List.mem_of_getElem? (i := 16) rfl))
theorem cd_49_36 : mt_cd 49 36 = some (.invokevirtual 70) := mt_cd_of (q := (36, .invokevirtual 70, 3)) mq_49 ci_49 (List.mem_append_left _ (show _ ∈ my_49_0 from List.mem_of_getElem? (i := 17) rfl))
theorem cd_49_39 : mt_cd 49 39 = some (.aload_n 0) := mt_cd_of (q := (39, .aload_n 0, 1)) mq_49 ci_49 (List.mem_append_left _ (show _ ∈ my_49_0 from List.mem_of_getElem? (i := 18) rfl))
theorem cd_49_40 : mt_cd 49 40 = some (.invokevirtual 102) := mt_cd_of (q := (40, .invokevirtual 102, 3)) mq_49 ci_49 (List.mem_append_left _ (show _ ∈ my_49_0 from List.mem_of_getElem? (i := 19) rfl))
theorem cd_49_43 : mt_cd 49 43 = some (.istore 5) := mt_cd_of (q := (43, .istore 5, 2)) mq_49 ci_49 (List.mem_append_left _ (show _ ∈ my_49_0 from List.mem_of_getElem? (i := 20) rfl))
theorem cd_49_45 : mt_cd 49 45 = some (.iload_n 2) := mt_cd_of (q := (45, .iload_n 2, 1)) mq_49 ci_49 (List.mem_append_left _ (show _ ∈ my_49_0 from List.mem_of_getElem? (i := 21) rfl))
theorem cd_49_46 : mt_cd 49 46 = some (.iconst (-1)) := mt_cd_of (q := (46, .iconst (-1), 1)) mq_49 ci_49 (List.mem_append_left _ (show _ ∈ my_49_0 from List.mem_of_getElem? (i := 22) rfl))
theorem cd_49_47 : mt_cd 49 47 = some (.if_icmp .ne 17) := mt_cd_of (q := (47, .if_icmp .ne 17, 3)) mq_49 ci_49 (List.mem_append_left _ (show _ ∈ my_49_0 from List.mem_of_getElem? (i := 23) rfl))
theorem cd_49_50 : mt_cd 49 50 = some (.aload_n 0) := mt_cd_of (q := (50, .aload_n 0, 1)) mq_49 ci_49 (List.mem_append_left _ (show _ ∈ my_49_0 from List.mem_of_getElem? (i := 24) rfl))
theorem cd_49_51 : mt_cd 49 51 = some (.getfield 19) := mt_cd_of (q := (51, .getfield 19, 3)) mq_49 ci_49 (List.mem_append_left _ (show _ ∈ my_49_0 from List.mem_of_getElem? (i := 25) rfl))
theorem cd_49_54 : mt_cd 49 54 = some (.getfield 109) := mt_cd_of (q := (54, .getfield 109, 3)) mq_49 ci_49 (List.mem_append_left _ (show _ ∈ my_49_0 from List.mem_of_getElem? (i := 26) rfl))
theorem cd_49_57 : mt_cd 49 57 = some (.iload_n 1) := mt_cd_of (q := (57, .iload_n 1, 1)) mq_49 ci_49 (List.mem_append_left _ (show _ ∈ my_49_0 from List.mem_of_getElem? (i := 27) rfl))
theorem cd_49_58 : mt_cd 49 58 = some (.iload 5) := mt_cd_of (q := (58, .iload 5, 2)) mq_49 ci_49 (List.mem_append_left _ (show _ ∈ my_49_0 from List.mem_of_getElem? (i := 28) rfl))
theorem cd_49_60 : mt_cd 49 60 = some (.iastore) := mt_cd_of (q := (60, .iastore, 1)) mq_49 ci_49 (List.mem_append_left _ (show _ ∈ my_49_0 from List.mem_of_getElem? (i := 29) rfl))
theorem cd_49_61 : mt_cd 49 61 = some (.goto 14) := mt_cd_of (q := (61, .goto 14, 3)) mq_49 ci_49 (List.mem_append_left _ (show _ ∈ my_49_0 from List.mem_of_getElem? (i := 30) rfl))
theorem cd_49_64 : mt_cd 49 64 = some (.aload_n 0) := mt_cd_of (q := (64, .aload_n 0, 1)) mq_49 ci_49 (List.mem_append_left _ (show _ ∈ my_49_0 from List.mem_of_getElem? (i := 31) rfl))
theorem cd_49_65 : mt_cd 49 65 = some (.getfield 19) := mt_cd_of (q := (65, .getfield 19, 3)) mq_49 ci_49 (List.mem_append_left _ (show _ ∈ my_49_0 from List.mem_of_getElem? (i := 32) rfl))
theorem cd_49_68 : mt_cd 49 68 = some (.getfield 141) := mt_cd_of (q := (68, .getfield 141, 3)) mq_49 ci_49 (List.mem_append_left _ (show _ ∈ my_49_0 from List.mem_of_getElem? (i := 33) rfl))
theorem cd_49_71 : mt_cd 49 71 = some (.iload_n 2) := mt_cd_of (q := (71, .iload_n 2, 1)) mq_49 ci_49 (List.mem_append_left _ (show _ ∈ my_49_0 from List.mem_of_getElem? (i := 34) rfl))
theorem cd_49_72 : mt_cd 49 72 = some (.iload 5) := mt_cd_of (q := (72, .iload 5, 2)) mq_49 ci_49 (List.mem_append_left _ (show _ ∈ my_49_0 from List.mem_of_getElem? (i := 35) rfl))
theorem cd_49_74 : mt_cd 49 74 = some (.iastore) := mt_cd_of (q := (74, .iastore, 1)) mq_49 ci_49 (List.mem_append_left _ (show _ ∈ my_49_0 from List.mem_of_getElem? (i := 36) rfl))
theorem cd_49_75 : mt_cd 49 75 = some (.iload 4) := mt_cd_of (q := (75, .iload 4, 2)) mq_49 ci_49 (List.mem_append_left _ (show _ ∈ my_49_0 from List.mem_of_getElem? (i := 37) rfl))
theorem cd_49_77 : mt_cd 49 77 = some (.bipush 8) := mt_cd_of (q := (77, .bipush 8, 2)) mq_49 ci_49 (List.mem_append_left _ (show _ ∈ my_49_0 from List.mem_of_getElem? (i := 38) rfl))
theorem cd_49_79 : mt_cd 49 79 = some (.if_icmp .ne 77) := mt_cd_of (q := (79, .if_icmp .ne 77, 3)) mq_49 ci_49 (List.mem_append_left _ (show _ ∈ my_49_0 from List.mem_of_getElem? (i := 39) rfl))
theorem cd_49_82 : mt_cd 49 82 = some (.aload_n 0) := mt_cd_of (q := (82, .aload_n 0, 1)) mq_49 ci_49 (List.mem_append_left _ (show _ ∈ my_49_0 from List.mem_of_getElem? (i := 40) rfl))
theorem cd_49_83 : mt_cd 49 83 = some (.getfield 19) := mt_cd_of (q := (83, .getfield 19, 3)) mq_49 ci_49 (List.mem_append_left _ (show _ ∈ my_49_0 from List.mem_of_getElem? (i := 41) rfl))
theorem cd_49_86 : mt_cd 49 86 = some (.getfield 128) := mt_cd_of (q := (86, .getfield 128, 3)) mq_49 ci_49 (List.mem_append_left _ (show _ ∈ my_49_0 from List.mem_of_getElem? (i := 42) rfl))
theorem cd_49_89 : mt_cd 49 89 = some (.iload 5) := mt_cd_of (q := (89, .iload 5, 2)) mq_49 ci_49 (List.mem_append_left _ (show _ ∈ my_49_0 from List.mem_of_getElem? (i := 43) rfl))
theorem cd_49_91 : mt_cd 49 91 = some (.aload_n 0) := mt_cd_of (q := (91, .aload_n 0, 1)) mq_49 ci_49 (List.mem_append_left _ (show _ ∈ my_49_0 from List.mem_of_getElem? (i := 44) rfl))
theorem cd_49_92 : mt_cd 49 92 = some (.aload_n 0) := mt_cd_of (q := (92, .aload_n 0, 1)) mq_49 ci_49 (List.mem_append_left _ (show _ ∈ my_49_0 from List.mem_of_getElem? (i := 45) rfl))
theorem cd_49_93 : mt_cd 49 93 = some (.getfield 34) := mt_cd_of (q := (93, .getfield 34, 3)) mq_49 ci_49 (List.mem_append_left _ (show _ ∈ my_49_0 from List.mem_of_getElem? (i := 46) rfl))
theorem cd_49_96 : mt_cd 49 96 = some (.invokevirtual 131) := mt_cd_of (q := (96, .invokevirtual 131, 3)) mq_49 ci_49 (List.mem_append_left _ (show _ ∈ my_49_0 from List.mem_of_getElem? (i := 47) rfl))
theorem cd_49_99 : mt_cd 49 99 = some (.iastore) := mt_cd_of (q := (99, .iastore, 1)) mq_49 ci_49 (List.mem_append_left _ (show _ ∈ my_49_0 from List.mem_of_getElem? (i := 48) rfl))
theorem cd_49_100 : mt_cd 49 100 = some (.aload_n 0) := mt_cd_of (q := (100, .aload_n 0, 1)) mq_49 ci_49 (List.mem_append_left _ (show _ ∈ my_49_0 from List.mem_of_getElem? (i := 49) rfl))
theorem cd_49_101 : mt_cd 49 101 = some (.getfield 19) := mt_cd_of (q := (101, .getfield 19, 3)) mq_49 ci_49 (List.mem_append_left _ (show _ ∈ my_49_0 from List.mem_of_getElem? (i := 50) rfl))
theorem cd_49_104 : mt_cd 49 104 = some (.getfield 151) := mt_cd_of (q := (104, .getfield 151, 3)) mq_49 ci_49 (List.mem_append_left _ (show _ ∈ my_49_0 from List.mem_of_getElem? (i := 51) rfl))
theorem cd_49_107 : mt_cd 49 107 = some (.iload 5) := mt_cd_of (q := (107, .iload 5, 2)) mq_49 ci_49 (List.mem_append_left _ (show _ ∈ my_49_0 from List.mem_of_getElem? (i := 52) rfl))
theorem cd_49_109 : mt_cd 49 109 = some (.aload_n 0) := mt_cd_of (q := (109, .aload_n 0, 1)) mq_49 ci_49 (List.mem_append_left _ (show _ ∈ my_49_0 from List.mem_of_getElem? (i := 53) rfl))
theorem cd_49_110 : mt_cd 49 110 = some (.aload_n 0) := mt_cd_of (q := (110, .aload_n 0, 1)) mq_49 ci_49 (List.mem_append_left _ (show _ ∈ my_49_0 from List.mem_of_getElem? (i := 54) rfl))
theorem cd_49_111 : mt_cd 49 111 = some (.getfield 34) := mt_cd_of (q := (111, .getfield 34, 3)) mq_49 ci_49 (List.mem_append_left _ (show _ ∈ my_49_0 from List.mem_of_getElem? (i := 55) rfl))
theorem cd_49_114 : mt_cd 49 114 = some (.invokevirtual 131) := mt_cd_of (q := (114, .invokevirtual 131, 3)) mq_49 ci_49 (List.mem_append_left _ (show _ ∈ my_49_0 from List.mem_of_getElem? (i := 56) rfl))
theorem cd_49_117 : mt_cd 49 117 = some (.iastore) := mt_cd_of (q := (117, .iastore, 1)) mq_49 ci_49 (List.mem_append_left _ (show _ ∈ my_49_0 from List.mem_of_getElem? (i := 57) rfl))
theorem cd_49_118 : mt_cd 49 118 = some (.aload_n 0) := mt_cd_of (q := (118, .aload_n 0, 1)) mq_49 ci_49 (List.mem_append_left _ (show _ ∈ my_49_0 from List.mem_of_getElem? (i := 58) rfl))
theorem cd_49_119 : mt_cd 49 119 = some (.getfield 19) := mt_cd_of (q := (119, .getfield 19, 3)) mq_49 ci_49 (List.mem_append_left _ (show _ ∈ my_49_0 from List.mem_of_getElem? (i := 59) rfl))
theorem cd_49_122 : mt_cd 49 122 = some (.getfield 154) := mt_cd_of (q := (122, .getfield 154, 3)) mq_49 ci_49 (List.mem_append_right _ ((show _ ∈ my_49_1 from List.mem_of_getElem? (i := 0) rfl)))
theorem cd_49_125 : mt_cd 49 125 = some (.iload 5) := mt_cd_of (q := (125, .iload 5, 2)) mq_49 ci_49 (List.mem_append_right _ ((show _ ∈ my_49_1 from List.mem_of_getElem? (i := 1) rfl)))
theorem cd_49_127 : mt_cd 49 127 = some (.aload_n 0) := mt_cd_of (q := (127, .aload_n 0, 1)) mq_49 ci_49 (List.mem_append_right _ ((show _ ∈ my_49_1 from List.mem_of_getElem? (i := 2) rfl)))
theorem cd_49_128 : mt_cd 49 128 = some (.aload_n 0) := mt_cd_of (q := (128, .aload_n 0, 1)) mq_49 ci_49 (List.mem_append_right _ ((show _ ∈ my_49_1 from List.mem_of_getElem? (i := 3) rfl)))
theorem cd_49_129 : mt_cd 49 129 = some (.getfield 38) := mt_cd_of (q := (129, .getfield 38, 3)) mq_49 ci_49 (List.mem_append_right _ ((show _ ∈ my_49_1 from List.mem_of_getElem? (i := 4) rfl)))
theorem cd_49_132 : mt_cd 49 132 = some (.invokevirtual 131) := mt_cd_of (q := (132, .invokevirtual 131, 3)) mq_49 ci_49 (List.mem_append_right _ ((show _ ∈ my_49_1 from List.mem_of_getElem? (i := 5) rfl)))
theorem cd_49_135 : mt_cd 49 135 = some (.iastore) := mt_cd_of (q := (135, .iastore, 1)) mq_49 ci_49 (List.mem_append_right _ ((show _ ∈ my_49_1 from List.mem_of_getElem? (i := 6) rfl)))
theorem cd_49_136 : mt_cd 49 136 = some (.aload_n 0) := mt_cd_of (q := (136, .aload_n 0, 1)) mq_49 ci_49 (List.mem_append_right _ ((show _ ∈ my_49_1 from List.mem_of_getElem? (i := 7) rfl)))
theorem cd_49_137 : mt_cd 49 137 = some (.getfield 19) := mt_cd_of (q := (137, .getfield 19, 3)) mq_49 ci_49 (List.mem_append_right _ ((show _ ∈ my_49_1 from List.mem_of_getElem? (i := 8) rfl)))
theorem cd_49_140 : mt_cd 49 140 = some (.getfield 109) := mt_cd_of (q := (140, .getfield 109, 3)) mq_49 ci_49 (List.mem_append_right _ ((show _ ∈ my_49_1 from List.mem_of_getElem? (i := 9) rfl)))
theorem cd_49_143 : mt_cd 49 143 = some (.iload 5) := mt_cd_of (q := (143, .iload 5, 2)) mq_49 ci_49 (List.mem_append_right _ ((show _ ∈ my_49_1 from List.mem_of_getElem? (i := 10) rfl)))
theorem cd_49_145 : mt_cd 49 145 = some (.aload_n 0) := mt_cd_of (q := (145, .aload_n 0, 1)) mq_49 ci_49 (List.mem_append_right _ ((show _ ∈ my_49_1 from List.mem_of_getElem? (i := 11) rfl)))
theorem cd_49_146 : mt_cd 49 146 = some (.iload_n 3) := mt_cd_of (q := (146, .iload_n 3, 1)) mq_49 ci_49 (List.mem_append_right _ ((show _ ∈ my_49_1 from List.mem_of_getElem? (i := 12) rfl)))
theorem cd_49_147 : mt_cd 49 147 = some (.iconst 1) := mt_cd_of (q := (147, .iconst 1, 1)) mq_49 ci_49 (List.mem_append_right _ ((show _ ∈ my_49_1 from List.mem_of_getElem? (i := 13) rfl)))
theorem cd_49_148 : mt_cd 49 148 = some (.iadd) := mt_cd_of (q := (148, .iadd, 1)) mq_49 ci_49 (List.mem_append_right _ ((show _ ∈ my_49_1 from List.mem_of_getElem? (i := 14) rfl)))
theorem cd_49_149 : mt_cd 49 149 = some (.invokevirtual 113) := mt_cd_of (q := (149, .invokevirtual 113, 3)) mq_49 ci_49 (List.mem_append_right _ ((show _ ∈ my_49_1 from List.mem_of_getElem? (i := 15) rfl)))
theorem cd_49_152 : mt_cd 49 152 = some (.iastore) := mt_cd_of (q := (152, .iastore, 1)) mq_49 ci_49 (List.mem_append_right _ ((show _ ∈ my_49_1 from List.mem_of_getElem? (i := 16) rfl)))
theorem cd_49_153 : mt_cd 49 153 = some (.goto 50) := mt_cd_of (q := (153, .goto 50, 3)) mq_49 ci_49 (List.mem_append_right _ ((show _ ∈ my_49_1 from List.mem_of_getElem? (i := 17) rfl)))
theorem cd_49_156 : mt_cd 49 156 = some (.iload 4) := mt_cd_of (q := (156, .iload 4, 2)) mq_49 ci_49 (List.mem_append_right _ ((show _ ∈ my_49_1 from List.mem_of_getElem? (i := 18) rfl)))
theorem cd_49_158 : mt_cd 49 158 = some (.bipush 9) := mt_cd_of (q := (158, .bipush 9, 2)) mq_49 ci_49 (List.mem_append_right _ ((show _ ∈ my_49_1 from List.mem_of_getElem? (i := 19) rfl)))
theorem cd_49_160 : mt_cd 49 160 = some (.if_icmp .ne 26) := mt_cd_of (q := (160, .if_icmp .ne 26, 3)) mq_49 ci_49 (List.mem_append_right _ ((show _ ∈ my_49_1 from List.mem_of_getElem? (i := 20) rfl)))
theorem cd_49_163 : mt_cd 49 163 = some (.aload_n 0) := mt_cd_of (q := (163, .aload_n 0, 1)) mq_49 ci_49 (List.mem_append_right _ ((show _ ∈ my_49_1 from List.mem_of_getElem? (i := 21) rfl)))
theorem cd_49_164 : mt_cd 49 164 = some (.getfield 19) := mt_cd_of (q := (164, .getfield 19, 3)) mq_49 ci_49 (List.mem_append_right _ ((show _ ∈ my_49_1 from List.mem_of_getElem? (i := 22) rfl)))
theorem cd_49_167 : mt_cd 49 167 = some (.getfield 128) := mt_cd_of (q := (167, .getfield 128, 3)) mq_49 ci_49 (List.mem_append_right _ ((show _ ∈ my_49_1 from List.mem_of_getElem? (i := 23) rfl)))
theorem cd_49_170 : mt_cd 49 170 = some (.iload 5) := mt_cd_of (q := (170, .iload 5, 2)) mq_49 ci_49 (List.mem_append_right _ ((show _ ∈ my_49_1 from List.mem_of_getElem? (i := 24) rfl)))
theorem cd_49_172 : mt_cd 49 172 = some (.aload_n 0) := mt_cd_of (q := (172, .aload_n 0, 1)) mq_49 ci_49 (List.mem_append_right _ ((show _ ∈ my_49_1 from List.mem_of_getElem? (i := 25) rfl)))
theorem cd_49_173 : mt_cd 49 173 = some (.invokevirtual 157) := mt_cd_of (q := (173, .invokevirtual 157, 3)) mq_49 ci_49 (List.mem_append_right _ ((show _ ∈ my_49_1 from List.mem_of_getElem? (i := 26) rfl)))
theorem cd_49_176 : mt_cd 49 176 = some (.iastore) := mt_cd_of (q := (176, .iastore, 1)) mq_49 ci_49 (List.mem_append_right _ ((show _ ∈ my_49_1 from List.mem_of_getElem? (i := 27) rfl)))
theorem cd_49_177 : mt_cd 49 177 = some (.aload_n 0) := mt_cd_of (q := (177, .aload_n 0, 1)) mq_49 ci_49 (List.mem_append_right _ ((show _ ∈ my_49_1 from List.mem_of_getElem? (i := 28) rfl)))
theorem cd_49_178 : mt_cd 49 178 = some (.iload 5) := mt_cd_of (q := (178, .iload 5, 2)) mq_49 ci_49 (List.mem_append_right _ ((show _ ∈ my_49_1 from List.mem_of_getElem? (i := 29) rfl)))
theorem cd_49_180 : mt_cd 49 180 = some (.invokevirtual 160) := mt_cd_of (q := (180, .invokevirtual 160, 3)) mq_49 ci_49 (List.mem_append_right _ ((show _ ∈ my_49_1 from List.mem_of_getElem? (i := 30) rfl)))
theorem cd_49_183 : mt_cd 49 183 = some (.goto 20) := mt_cd_of (q := (183, .goto 20, 3)) mq_49 ci_49 (List.mem_append_right _ ((show _ ∈ my_49_1 from List.mem_of_getElem? (i := 31) rfl)))
theorem cd_49_186 : mt_cd 49 186 = some (.aload_n 0) := mt_cd_of (q := (186, .aload_n 0, 1)) mq_49 ci_49 (List.mem_append_right _ ((show _ ∈ my_49_1 from List.mem_of_getElem? (i := 32) rfl)))
theorem cd_49_187 : mt_cd 49 187 = some (.getfield 19) := mt_cd_of (q := (187, .getfield 19, 3)) mq_49 ci_49 (List.mem_append_right _ ((show _ ∈ my_49_1 from List.mem_of_getElem? (i := 33) rfl)))
theorem cd_49_190 : mt_cd 49 190 = some (.getfield 109) := mt_cd_of (q := (190, .getfield 109, 3)) mq_49 ci_49 (List.mem_append_right _ ((show _ ∈ my_49_1 from List.mem_of_getElem? (i := 34) rfl)))
theorem cd_49_193 : mt_cd 49 193 = some (.iload 5) := mt_cd_of (q := (193, .iload 5, 2)) mq_49 ci_49 (List.mem_append_right _ ((show _ ∈ my_49_1 from List.mem_of_getElem? (i := 35) rfl)))
theorem cd_49_195 : mt_cd 49 195 = some (.aload_n 0) := mt_cd_of (q := (195, .aload_n 0, 1)) mq_49 ci_49 (List.mem_append_right _ ((show _ ∈ my_49_1 from List.mem_of_getElem? (i := 36) rfl)))
theorem cd_49_196 : mt_cd 49 196 = some (.iload_n 3) := mt_cd_of (q := (196, .iload_n 3, 1)) mq_49 ci_49 (List.mem_append_right _ ((show _ ∈ my_49_1 from List.mem_of_getElem? (i := 37) rfl)))
theorem cd_49_197 : mt_cd 49 197 = some (.iconst 1) := mt_cd_of (q := (197, .iconst 1, 1)) mq_49 ci_49 (List.mem_append_right _ ((show _ ∈ my_49_1 from List.mem_of_getElem? (i := 38) rfl)))
theorem cd_49_198 : mt_cd 49 198 = some (.iadd) := mt_cd_of (q := (198, .iadd, 1)) mq_49 ci_49 (List.mem_append_right _ ((show _ ∈ my_49_1 from List.mem_of_getElem? (i := 39) rfl)))
theorem cd_49_199 : mt_cd 49 199 = some (.invokevirtual 135) := mt_cd_of (q := (199, .invokevirtual 135, 3)) mq_49 ci_49 (List.mem_append_right _ ((show _ ∈ my_49_1 from List.mem_of_getElem? (i := 40) rfl)))
theorem cd_49_202 : mt_cd 49 202 = some (.iastore) := mt_cd_of (q := (202, .iastore, 1)) mq_49 ci_49 (List.mem_append_right _ ((show _ ∈ my_49_1 from List.mem_of_getElem? (i := 41) rfl)))
theorem cd_49_203 : mt_cd 49 203 = some (.aload_n 0) := mt_cd_of (q := (203, .aload_n 0, 1)) mq_49 ci_49 (List.mem_append_right _ ((show _ ∈ my_49_1 from List.mem_of_getElem? (i := 42) rfl)))
theorem cd_49_204 : mt_cd 49 204 = some (.getfield 19) := mt_cd_of (q := (204, .getfield 19, 3)) mq_49 ci_49 (List.mem_append_right _ ((show _ ∈ my_49_1 from List.mem_of_getElem? (i := 43) rfl)))
theorem cd_49_207 : mt_cd 49 207 = some (.getfield 138) := mt_cd_of (q := (207, .getfield 138, 3)) mq_49 ci_49 (List.mem_append_right _ ((show _ ∈ my_49_1 from List.mem_of_getElem? (i := 44) rfl)))
theorem cd_49_210 : mt_cd 49 210 = some (.iload 5) := mt_cd_of (q := (210, .iload 5, 2)) mq_49 ci_49 (List.mem_append_right _ ((show _ ∈ my_49_1 from List.mem_of_getElem? (i := 45) rfl)))
theorem cd_49_212 : mt_cd 49 212 = some (.aload_n 0) := mt_cd_of (q := (212, .aload_n 0, 1)) mq_49 ci_49 (List.mem_append_right _ ((show _ ∈ my_49_1 from List.mem_of_getElem? (i := 46) rfl)))
theorem cd_49_213 : mt_cd 49 213 = some (.iload_n 3) := mt_cd_of (q := (213, .iload_n 3, 1)) mq_49 ci_49 (List.mem_append_right _ ((show _ ∈ my_49_1 from List.mem_of_getElem? (i := 47) rfl)))
theorem cd_49_214 : mt_cd 49 214 = some (.iconst 1) := mt_cd_of (q := (214, .iconst 1, 1)) mq_49 ci_49 (List.mem_append_right _ ((show _ ∈ my_49_1 from List.mem_of_getElem? (i := 48) rfl)))
theorem cd_49_215 : mt_cd 49 215 = some (.iadd) := mt_cd_of (q := (215, .iadd, 1)) mq_49 ci_49 (List.mem_append_right _ ((show _ ∈ my_49_1 from List.mem_of_getElem? (i := 49) rfl)))
theorem cd_49_216 : mt_cd 49 216 = some (.invokevirtual 96) := mt_cd_of (q := (216, .invokevirtual 96, 3)) mq_49 ci_49 (List.mem_append_right _ ((show _ ∈ my_49_1 from List.mem_of_getElem? (i := 50) rfl)))
theorem cd_49_219 : mt_cd 49 219 = some (.iastore) := mt_cd_of (q := (219, .iastore, 1)) mq_49 ci_49 (List.mem_append_right _ ((show _ ∈ my_49_1 from List.mem_of_getElem? (i := 51) rfl)))
theorem cd_49_220 : mt_cd 49 220 = some (.iload 5) := mt_cd_of (q := (220, .iload 5, 2)) mq_49 ci_49 (List.mem_append_right _ ((show _ ∈ my_49_1 from List.mem_of_getElem? (i := 52) rfl)))
theorem cd_49_222 : mt_cd 49 222 = some (.ireturn) := mt_cd_of (q := (222, .ireturn, 1)) mq_49 ci_49 (List.mem_append_right _ ((show _ ∈ my_49_1 from List.mem_of_getElem? (i := 53) rfl)))
theorem b_49_0 {d : Nat} {Q : (Option Value ⊕ Nat) → mi_H → Prop} (n sl : Nat) (f : Nat → mi_C) {l1 : Nat} {l2 : Int32} {l3 : Int32} {l4 : Int32} {o5 : Option Value} {o6 : Option Value} {fs7 : List Value} {x10 : Nat} {fs12 : List Value} {x15 : Int32} (h8 : f l1 = .inr (3, fs7)) (h9 : l1 < n) (h11 : fs7[0]? = some (.ref x10)) (h13 : f x10 = .inr (1, fs12)) (h14 : x10 < n) (h16 : fs12[2]? = some (.int x15)) (h17 : x15 = 8 → mi_W d 49 31 [some (.ref l1), some (.int l2), some (.int l3), some (.int l4), some (.int x15), o6] [.ref l1] (n, sl, f) Q) (h18 : ¬ (x15 = 8) → mi_W d 49 17 [some (.ref l1), some (.int l2), some (.int l3), some (.int l4), some (.int x15), o6] [.ref l1] (n, sl, f) Q) : mi_W d 49 0 [some (.ref l1), some (.int l2), some (.int l3), some (.int l4), o5, o6] [] (n, sl, f) Q := by
  refine w_aload_n cd_49_0 rfl ?_
  refine w_getfield cd_49_1 (show mt_f 3 15 = some (3, 0) by decide +kernel) h8 h9 h11 ?_
  refine w_getfield cd_49_4 (show mt_f 3 67 = some (1, 2) by decide +kernel) h13 h14 h16 ?_
  refine w_istore (ls' := [some (.ref l1), some (.int l2), some (.int l3), some (.int l4), some (.int x15), o6]) cd_49_7 (Nat.le_of_ble_eq_true rfl) rfl ?_
  refine w_aload_n cd_49_9 rfl ?_
  refine w_iload cd_49_10 rfl ?_
  refine w_bipush (v := 8) cd_49_12 (by decide) ?_
  exact w_if_icmpeq cd_49_14 (by decide) h17 h18
theorem b_49_17 {d : Nat} {Q : (Option Value ⊕ Nat) → mi_H → Prop} (n sl : Nat) (f : Nat → mi_C) {l1 : Nat} {l2 : Int32} {l3 : Int32} {l4 : Int32} {l5 : Int32} {o6 : Option Value} {s7 : Nat} (h8 : l5 = 9 → mi_W d 49 31 [some (.ref l1), some (.int l2), some (.int l3), some (.int l4), some (.int l5), o6] [.ref s7] (n, sl, f) Q) (h9 : ¬ (l5 = 9) → mi_W d 49 24 [some (.ref l1), some (.int l2), some (.int l3), some (.int l4), some (.int l5), o6] [.ref s7] (n, sl, f) Q) : mi_W d 49 17 [some (.ref l1), some (.int l2), some (.int l3), some (.int l4), some (.int l5), o6] [.ref s7] (n, sl, f) Q := by
  refine w_iload cd_49_17 rfl ?_
  refine w_bipush (v := 9) cd_49_19 (by decide) ?_
  exact w_if_icmpeq cd_49_21 (by decide) h8 h9
theorem b_49_24 {d : Nat} {Q : (Option Value ⊕ Nat) → mi_H → Prop} (n sl : Nat) (f : Nat → mi_C) {l1 : Nat} {l2 : Int32} {l3 : Int32} {l4 : Int32} {l5 : Int32} {o6 : Option Value} {s7 : Nat} (h8 : ¬ l5 = 10 → mi_W d 49 35 [some (.ref l1), some (.int l2), some (.int l3), some (.int l4), some (.int l5), o6] [.ref s7] (n, sl, f) Q) (h9 : ¬ (¬ l5 = 10) → mi_W d 49 31 [some (.ref l1), some (.int l2), some (.int l3), some (.int l4), some (.int l5), o6] [.ref s7] (n, sl, f) Q) : mi_W d 49 24 [some (.ref l1), some (.int l2), some (.int l3), some (.int l4), some (.int l5), o6] [.ref s7] (n, sl, f) Q := by
  refine w_iload cd_49_24 rfl ?_
  refine w_bipush (v := 10) cd_49_26 (by decide) ?_
  exact w_if_icmpne cd_49_28 (by decide) h8 h9
theorem b_49_31 {d : Nat} {Q : (Option Value ⊕ Nat) → mi_H → Prop} (n sl : Nat) (f : Nat → mi_C) {l1 : Nat} {l2 : Int32} {l3 : Int32} {l4 : Int32} {l5 : Int32} {o6 : Option Value} {s7 : Nat} (h8 : mi_W d 49 36 [some (.ref l1), some (.int l2), some (.int l3), some (.int l4), some (.int l5), o6] [.int 1, .ref s7] (n, sl, f) Q) : mi_W d 49 31 [some (.ref l1), some (.int l2), some (.int l3), some (.int l4), some (.int l5), o6] [.ref s7] (n, sl, f) Q := by
  refine w_iconst (v := 1) cd_49_31 (by decide) ?_
  exact w_goto cd_49_32 (by decide) h8
theorem b_49_35 {d : Nat} {Q : (Option Value ⊕ Nat) → mi_H → Prop} (n sl : Nat) (f : Nat → mi_C) {l1 : Nat} {l2 : Int32} {l3 : Int32} {l4 : Int32} {l5 : Int32} {o6 : Option Value} {s7 : Nat} (h8 : mi_W d 49 36 [some (.ref l1), some (.int l2), some (.int l3), some (.int l4), some (.int l5), o6] [.int 0, .ref s7] (n, sl, f) Q) : mi_W d 49 35 [some (.ref l1), some (.int l2), some (.int l3), some (.int l4), some (.int l5), o6] [.ref s7] (n, sl, f) Q := by
  refine w_iconst (v := 0) cd_49_35 (by decide) ?_
  exact h8
theorem b_49_36 {d : Nat} {Q : (Option Value ⊕ Nat) → mi_H → Prop} (n sl : Nat) (f : Nat → mi_C) {l1 : Nat} {l2 : Int32} {l3 : Int32} {l4 : Int32} {l5 : Int32} {o6 : Option Value} {s7 : Int32} {s8 : Nat} {fs9 : List Value} (h10 : f s8 = .inr (3, fs9)) (h11 : s8 < n) (h12 : mi_W d 38 0 (mi_en 2 [.ref s8, .int s7]) [] (n, sl, f) (mi_Kc d 49 36 [some (.ref l1), some (.int l2), some (.int l3), some (.int l4), some (.int l5), o6] [] Q)) : mi_W (d + 1) 49 36 [some (.ref l1), some (.int l2), some (.int l3), some (.int l4), some (.int l5), o6] [.int s7, .ref s8] (n, sl, f) Q := by
  exact w_invokevirtual cd_49_36 (show mt_m 3 70 = some (38, 0) by decide +kernel) (rest := []) rfl (as := [.ref s8, .int s7]) rfl h10 (Or.inl h11) ⟨Nat.le_of_ble_eq_true rfl, Nat.le_of_ble_eq_true rfl, Nat.le_of_ble_eq_true rfl⟩ h12
theorem b_49_39 {d : Nat} {Q : (Option Value ⊕ Nat) → mi_H → Prop} (n sl : Nat) (f : Nat → mi_C) {l1 : Nat} {l2 : Int32} {l3 : Int32} {l4 : Int32} {l5 : Int32} {o6 : Option Value} {fs7 : List Value} (h8 : f l1 = .inr (3, fs7)) (h9 : l1 < n) (h10 : mi_W d 40 0 (mi_en 2 [.ref l1]) [] (n, sl, f) (mi_Kc d 49 40 [some (.ref l1), some (.int l2), some (.int l3), some (.int l4), some (.int l5), o6] [] Q)) : mi_W (d + 1) 49 39 [some (.ref l1), some (.int l2), some (.int l3), some (.int l4), some (.int l5), o6] [] (n, sl, f) Q := by
  refine w_aload_n cd_49_39 rfl ?_
  exact w_invokevirtual cd_49_40 (show mt_m 3 102 = some (40, 0) by decide +kernel) (rest := []) rfl (as := [.ref l1]) rfl h8 (Or.inl h9) ⟨Nat.le_of_ble_eq_true rfl, Nat.le_of_ble_eq_true rfl, Nat.le_of_ble_eq_true rfl⟩ h10
theorem b_49_43 {d : Nat} {Q : (Option Value ⊕ Nat) → mi_H → Prop} (n sl : Nat) (f : Nat → mi_C) {l1 : Nat} {l2 : Int32} {l3 : Int32} {l4 : Int32} {l5 : Int32} {o6 : Option Value} {s7 : Int32} (h8 : ¬ l3 = ((-1)) → mi_W d 49 64 [some (.ref l1), some (.int l2), some (.int l3), some (.int l4), some (.int l5), some (.int s7)] [] (n, sl, f) Q) (h9 : ¬ (¬ l3 = ((-1))) → mi_W d 49 50 [some (.ref l1), some (.int l2), some (.int l3), some (.int l4), some (.int l5), some (.int s7)] [] (n, sl, f) Q) : mi_W d 49 43 [some (.ref l1), some (.int l2), some (.int l3), some (.int l4), some (.int l5), o6] [.int s7] (n, sl, f) Q := by
  refine w_istore (ls' := [some (.ref l1), some (.int l2), some (.int l3), some (.int l4), some (.int l5), some (.int s7)]) cd_49_43 (Nat.le_of_ble_eq_true rfl) rfl ?_
  refine w_iload_n cd_49_45 rfl ?_
  refine w_iconst (v := (-1)) cd_49_46 (by decide) ?_
  exact w_if_icmpne cd_49_47 (by decide) h8 h9
theorem b_49_50 {d : Nat} {Q : (Option Value ⊕ Nat) → mi_H → Prop} (n sl : Nat) (f : Nat → mi_C) {l1 : Nat} {l2 : Int32} {l3 : Int32} {l4 : Int32} {l5 : Int32} {l6 : Int32} {fs7 : List Value} {x10 : Nat} {fs12 : List Value} {x15 : Nat} (m17 i17 : Nat) (g17 : Nat → Int32) (h8 : f l1 = .inr (3, fs7)) (h9 : l1 < n) (h11 : fs7[1]? = some (.ref x10)) (h13 : f x10 = .inr (2, fs12)) (h14 : x10 < n) (h16 : fs12[1]? = some (.ref x15)) (h18 : f x15 = .inl (0, m17, .inl g17)) (h19 : x15 < n) (h20 : mi_ix l2 m17 i17) (h21 : mi_W d 49 75 [some (.ref l1), some (.int l2), some (.int l3), some (.int l4), some (.int l5), some (.int l6)] [] (n, sl, (va_up f x15 (.inl (0, m17, .inl (upd g17 i17 l6))))) Q) : mi_W d 49 50 [some (.ref l1), some (.int l2), some (.int l3), some (.int l4), some (.int l5), some (.int l6)] [] (n, sl, f) Q := by
  refine w_aload_n cd_49_50 rfl ?_
  refine w_getfield cd_49_51 (show mt_f 3 19 = some (3, 1) by decide +kernel) h8 h9 h11 ?_
  refine w_getfield cd_49_54 (show mt_f 3 109 = some (2, 1) by decide +kernel) h13 h14 h16 ?_
  refine w_iload_n cd_49_57 rfl ?_
  refine w_iload cd_49_58 rfl ?_
  refine w_iastore cd_49_60 h18 h19 h20 ?_
  exact w_goto cd_49_61 (by decide) h21
theorem b_49_64 {d : Nat} {Q : (Option Value ⊕ Nat) → mi_H → Prop} (n sl : Nat) (f : Nat → mi_C) {l1 : Nat} {l2 : Int32} {l3 : Int32} {l4 : Int32} {l5 : Int32} {l6 : Int32} {fs7 : List Value} {x10 : Nat} {fs12 : List Value} {x15 : Nat} (m17 i17 : Nat) (g17 : Nat → Int32) (h8 : f l1 = .inr (3, fs7)) (h9 : l1 < n) (h11 : fs7[1]? = some (.ref x10)) (h13 : f x10 = .inr (2, fs12)) (h14 : x10 < n) (h16 : fs12[3]? = some (.ref x15)) (h18 : f x15 = .inl (0, m17, .inl g17)) (h19 : x15 < n) (h20 : mi_ix l3 m17 i17) (h21 : mi_W d 49 75 [some (.ref l1), some (.int l2), some (.int l3), some (.int l4), some (.int l5), some (.int l6)] [] (n, sl, (va_up f x15 (.inl (0, m17, .inl (upd g17 i17 l6))))) Q) : mi_W d 49 64 [some (.ref l1), some (.int l2), some (.int l3), some (.int l4), some (.int l5), some (.int l6)] [] (n, sl, f) Q := by
  refine w_aload_n cd_49_64 rfl ?_
  refine w_getfield cd_49_65 (show mt_f 3 19 = some (3, 1) by decide +kernel) h8 h9 h11 ?_
  refine w_getfield cd_49_68 (show mt_f 3 141 = some (2, 3) by decide +kernel) h13 h14 h16 ?_
  refine w_iload_n cd_49_71 rfl ?_
  refine w_iload cd_49_72 rfl ?_
  refine w_iastore cd_49_74 h18 h19 h20 ?_
  exact h21
theorem b_49_75 {d : Nat} {Q : (Option Value ⊕ Nat) → mi_H → Prop} (n sl : Nat) (f : Nat → mi_C) {l1 : Nat} {l2 : Int32} {l3 : Int32} {l4 : Int32} {l5 : Int32} {l6 : Int32} (h7 : ¬ l5 = 8 → mi_W d 49 156 [some (.ref l1), some (.int l2), some (.int l3), some (.int l4), some (.int l5), some (.int l6)] [] (n, sl, f) Q) (h8 : ¬ (¬ l5 = 8) → mi_W d 49 82 [some (.ref l1), some (.int l2), some (.int l3), some (.int l4), some (.int l5), some (.int l6)] [] (n, sl, f) Q) : mi_W d 49 75 [some (.ref l1), some (.int l2), some (.int l3), some (.int l4), some (.int l5), some (.int l6)] [] (n, sl, f) Q := by
  refine w_iload cd_49_75 rfl ?_
  refine w_bipush (v := 8) cd_49_77 (by decide) ?_
  exact w_if_icmpne cd_49_79 (by decide) h7 h8
theorem b_49_82 {d : Nat} {Q : (Option Value ⊕ Nat) → mi_H → Prop} (n sl : Nat) (f : Nat → mi_C) {l1 : Nat} {l2 : Int32} {l3 : Int32} {l4 : Int32} {l5 : Int32} {l6 : Int32} {fs7 : List Value} {x10 : Nat} {fs12 : List Value} {x15 : Nat} {fs17 : List Value} {x20 : Nat} {fs22 : List Value} (h8 : f l1 = .inr (3, fs7)) (h9 : l1 < n) (h11 : fs7[1]? = some (.ref x10)) (h13 : f x10 = .inr (2, fs12)) (h14 : x10 < n) (h16 : fs12[4]? = some (.ref x15)) (h18 : f l1 = .inr (3, fs17)) (h19 : l1 < n) (h21 : fs17[2]? = some (.ref x20)) (h23 : f l1 = .inr (3, fs22)) (h24 : l1 < n) (h25 : mi_W d 43 0 (mi_en 3 [.ref l1, .ref x20]) [] (n, sl, f) (mi_Kc d 49 96 [some (.ref l1), some (.int l2), some (.int l3), some (.int l4), some (.int l5), some (.int l6)] [.int l6, .ref x15] Q)) : mi_W (d + 1) 49 82 [some (.ref l1), some (.int l2), some (.int l3), some (.int l4), some (.int l5), some (.int l6)] [] (n, sl, f) Q := by
  refine w_aload_n cd_49_82 rfl ?_
  refine w_getfield cd_49_83 (show mt_f 3 19 = some (3, 1) by decide +kernel) h8 h9 h11 ?_
  refine w_getfield cd_49_86 (show mt_f 3 128 = some (2, 4) by decide +kernel) h13 h14 h16 ?_
  refine w_iload cd_49_89 rfl ?_
  refine w_aload_n cd_49_91 rfl ?_
  refine w_aload_n cd_49_92 rfl ?_
  refine w_getfield cd_49_93 (show mt_f 3 34 = some (3, 2) by decide +kernel) h18 h19 h21 ?_
  exact w_invokevirtual cd_49_96 (show mt_m 3 131 = some (43, 0) by decide +kernel) (rest := [.int l6, .ref x15]) rfl (as := [.ref l1, .ref x20]) rfl h23 (Or.inl h24) ⟨Nat.le_of_ble_eq_true rfl, Nat.le_of_ble_eq_true rfl, Nat.le_of_ble_eq_true rfl⟩ h25
theorem b_49_99 {d : Nat} {Q : (Option Value ⊕ Nat) → mi_H → Prop} (n sl : Nat) (f : Nat → mi_C) {l1 : Nat} {l2 : Int32} {l3 : Int32} {l4 : Int32} {l5 : Int32} {l6 : Int32} {s7 : Int32} {s8 : Int32} {s9 : Nat} (m10 i10 : Nat) (g10 : Nat → Int32) {fs14 : List Value} {x17 : Nat} {fs19 : List Value} {x22 : Nat} {fs24 : List Value} {x27 : Nat} {fs29 : List Value} (h11 : f s9 = .inl (0, m10, .inl g10)) (h12 : s9 < n) (h13 : mi_ix s8 m10 i10) (h15 : (va_up f s9 (.inl (0, m10, .inl (upd g10 i10 s7)))) l1 = .inr (3, fs14)) (h16 : l1 < n) (h18 : fs14[1]? = some (.ref x17)) (h20 : (va_up f s9 (.inl (0, m10, .inl (upd g10 i10 s7)))) x17 = .inr (2, fs19)) (h21 : x17 < n) (h23 : fs19[5]? = some (.ref x22)) (h25 : (va_up f s9 (.inl (0, m10, .inl (upd g10 i10 s7)))) l1 = .inr (3, fs24)) (h26 : l1 < n) (h28 : fs24[2]? = some (.ref x27)) (h30 : (va_up f s9 (.inl (0, m10, .inl (upd g10 i10 s7)))) l1 = .inr (3, fs29)) (h31 : l1 < n) (h32 : mi_W d 43 0 (mi_en 3 [.ref l1, .ref x27]) [] (n, sl, (va_up f s9 (.inl (0, m10, .inl (upd g10 i10 s7))))) (mi_Kc d 49 114 [some (.ref l1), some (.int l2), some (.int l3), some (.int l4), some (.int l5), some (.int l6)] [.int l6, .ref x22] Q)) : mi_W (d + 1) 49 99 [some (.ref l1), some (.int l2), some (.int l3), some (.int l4), some (.int l5), some (.int l6)] [.int s7, .int s8, .ref s9] (n, sl, f) Q := by
  refine w_iastore cd_49_99 h11 h12 h13 ?_
  refine w_aload_n cd_49_100 rfl ?_
  refine w_getfield cd_49_101 (show mt_f 3 19 = some (3, 1) by decide +kernel) h15 h16 h18 ?_
  refine w_getfield cd_49_104 (show mt_f 3 151 = some (2, 5) by decide +kernel) h20 h21 h23 ?_
  refine w_iload cd_49_107 rfl ?_
  refine w_aload_n cd_49_109 rfl ?_
  refine w_aload_n cd_49_110 rfl ?_
  refine w_getfield cd_49_111 (show mt_f 3 34 = some (3, 2) by decide +kernel) h25 h26 h28 ?_
  exact w_invokevirtual cd_49_114 (show mt_m 3 131 = some (43, 0) by decide +kernel) (rest := [.int l6, .ref x22]) rfl (as := [.ref l1, .ref x27]) rfl h30 (Or.inl h31) ⟨Nat.le_of_ble_eq_true rfl, Nat.le_of_ble_eq_true rfl, Nat.le_of_ble_eq_true rfl⟩ h32
theorem b_49_117 {d : Nat} {Q : (Option Value ⊕ Nat) → mi_H → Prop} (n sl : Nat) (f : Nat → mi_C) {l1 : Nat} {l2 : Int32} {l3 : Int32} {l4 : Int32} {l5 : Int32} {l6 : Int32} {s7 : Int32} {s8 : Int32} {s9 : Nat} (m10 i10 : Nat) (g10 : Nat → Int32) {fs14 : List Value} {x17 : Nat} {fs19 : List Value} {x22 : Nat} {fs24 : List Value} {x27 : Nat} {fs29 : List Value} (h11 : f s9 = .inl (0, m10, .inl g10)) (h12 : s9 < n) (h13 : mi_ix s8 m10 i10) (h15 : (va_up f s9 (.inl (0, m10, .inl (upd g10 i10 s7)))) l1 = .inr (3, fs14)) (h16 : l1 < n) (h18 : fs14[1]? = some (.ref x17)) (h20 : (va_up f s9 (.inl (0, m10, .inl (upd g10 i10 s7)))) x17 = .inr (2, fs19)) (h21 : x17 < n) (h23 : fs19[6]? = some (.ref x22)) (h25 : (va_up f s9 (.inl (0, m10, .inl (upd g10 i10 s7)))) l1 = .inr (3, fs24)) (h26 : l1 < n) (h28 : fs24[3]? = some (.ref x27)) (h30 : (va_up f s9 (.inl (0, m10, .inl (upd g10 i10 s7)))) l1 = .inr (3, fs29)) (h31 : l1 < n) (h32 : mi_W d 43 0 (mi_en 3 [.ref l1, .ref x27]) [] (n, sl, (va_up f s9 (.inl (0, m10, .inl (upd g10 i10 s7))))) (mi_Kc d 49 132 [some (.ref l1), some (.int l2), some (.int l3), some (.int l4), some (.int l5), some (.int l6)] [.int l6, .ref x22] Q)) : mi_W (d + 1) 49 117 [some (.ref l1), some (.int l2), some (.int l3), some (.int l4), some (.int l5), some (.int l6)] [.int s7, .int s8, .ref s9] (n, sl, f) Q := by
  refine w_iastore cd_49_117 h11 h12 h13 ?_
  refine w_aload_n cd_49_118 rfl ?_
  refine w_getfield cd_49_119 (show mt_f 3 19 = some (3, 1) by decide +kernel) h15 h16 h18 ?_
  refine w_getfield cd_49_122 (show mt_f 3 154 = some (2, 6) by decide +kernel) h20 h21 h23 ?_
  refine w_iload cd_49_125 rfl ?_
  refine w_aload_n cd_49_127 rfl ?_
  refine w_aload_n cd_49_128 rfl ?_
  refine w_getfield cd_49_129 (show mt_f 3 38 = some (3, 3) by decide +kernel) h25 h26 h28 ?_
  exact w_invokevirtual cd_49_132 (show mt_m 3 131 = some (43, 0) by decide +kernel) (rest := [.int l6, .ref x22]) rfl (as := [.ref l1, .ref x27]) rfl h30 (Or.inl h31) ⟨Nat.le_of_ble_eq_true rfl, Nat.le_of_ble_eq_true rfl, Nat.le_of_ble_eq_true rfl⟩ h32
theorem b_49_135 {d : Nat} {Q : (Option Value ⊕ Nat) → mi_H → Prop} (n sl : Nat) (f : Nat → mi_C) {l1 : Nat} {l2 : Int32} {l3 : Int32} {l4 : Int32} {l5 : Int32} {l6 : Int32} {s7 : Int32} {s8 : Int32} {s9 : Nat} (m10 i10 : Nat) (g10 : Nat → Int32) {fs14 : List Value} {x17 : Nat} {fs19 : List Value} {x22 : Nat} {fs24 : List Value} (h11 : f s9 = .inl (0, m10, .inl g10)) (h12 : s9 < n) (h13 : mi_ix s8 m10 i10) (h15 : (va_up f s9 (.inl (0, m10, .inl (upd g10 i10 s7)))) l1 = .inr (3, fs14)) (h16 : l1 < n) (h18 : fs14[1]? = some (.ref x17)) (h20 : (va_up f s9 (.inl (0, m10, .inl (upd g10 i10 s7)))) x17 = .inr (2, fs19)) (h21 : x17 < n) (h23 : fs19[1]? = some (.ref x22)) (h25 : (va_up f s9 (.inl (0, m10, .inl (upd g10 i10 s7)))) l1 = .inr (3, fs24)) (h26 : l1 < n) (h27 : mi_W d 46 0 (mi_en 5 [.ref l1, .int (l4 + 1)]) [] (n, sl, (va_up f s9 (.inl (0, m10, .inl (upd g10 i10 s7))))) (mi_Kc d 49 149 [some (.ref l1), some (.int l2), some (.int l3), some (.int l4), some (.int l5), some (.int l6)] [.int l6, .ref x22] Q)) : mi_W (d + 1) 49 135 [some (.ref l1), some (.int l2), some (.int l3), some (.int l4), some (.int l5), some (.int l6)] [.int s7, .int s8, .ref s9] (n, sl, f) Q := by
  refine w_iastore cd_49_135 h11 h12 h13 ?_
  refine w_aload_n cd_49_136 rfl ?_
  refine w_getfield cd_49_137 (show mt_f 3 19 = some (3, 1) by decide +kernel) h15 h16 h18 ?_
  refine w_getfield cd_49_140 (show mt_f 3 109 = some (2, 1) by decide +kernel) h20 h21 h23 ?_
  refine w_iload cd_49_143 rfl ?_
  refine w_aload_n cd_49_145 rfl ?_
  refine w_iload_n cd_49_146 rfl ?_
  refine w_iconst (v := 1) cd_49_147 (by decide) ?_
  refine w_iadd cd_49_148 ?_
  exact w_invokevirtual cd_49_149 (show mt_m 3 113 = some (46, 0) by decide +kernel) (rest := [.int l6, .ref x22]) rfl (as := [.ref l1, .int (l4 + 1)]) rfl h25 (Or.inl h26) ⟨Nat.le_of_ble_eq_true rfl, Nat.le_of_ble_eq_true rfl, Nat.le_of_ble_eq_true rfl⟩ h27
theorem b_49_152 {d : Nat} {Q : (Option Value ⊕ Nat) → mi_H → Prop} (n sl : Nat) (f : Nat → mi_C) {l1 : Nat} {l2 : Int32} {l3 : Int32} {l4 : Int32} {l5 : Int32} {l6 : Int32} {s7 : Int32} {s8 : Int32} {s9 : Nat} (m10 i10 : Nat) (g10 : Nat → Int32) (h11 : f s9 = .inl (0, m10, .inl g10)) (h12 : s9 < n) (h13 : mi_ix s8 m10 i10) (h14 : mi_W d 49 203 [some (.ref l1), some (.int l2), some (.int l3), some (.int l4), some (.int l5), some (.int l6)] [] (n, sl, (va_up f s9 (.inl (0, m10, .inl (upd g10 i10 s7))))) Q) : mi_W d 49 152 [some (.ref l1), some (.int l2), some (.int l3), some (.int l4), some (.int l5), some (.int l6)] [.int s7, .int s8, .ref s9] (n, sl, f) Q := by
  refine w_iastore cd_49_152 h11 h12 h13 ?_
  exact w_goto cd_49_153 (by decide) h14
theorem b_49_156 {d : Nat} {Q : (Option Value ⊕ Nat) → mi_H → Prop} (n sl : Nat) (f : Nat → mi_C) {l1 : Nat} {l2 : Int32} {l3 : Int32} {l4 : Int32} {l5 : Int32} {l6 : Int32} (h7 : ¬ l5 = 9 → mi_W d 49 186 [some (.ref l1), some (.int l2), some (.int l3), some (.int l4), some (.int l5), some (.int l6)] [] (n, sl, f) Q) (h8 : ¬ (¬ l5 = 9) → mi_W d 49 163 [some (.ref l1), some (.int l2), some (.int l3), some (.int l4), some (.int l5), some (.int l6)] [] (n, sl, f) Q) : mi_W d 49 156 [some (.ref l1), some (.int l2), some (.int l3), some (.int l4), some (.int l5), some (.int l6)] [] (n, sl, f) Q := by
  refine w_iload cd_49_156 rfl ?_
  refine w_bipush (v := 9) cd_49_158 (by decide) ?_
  exact w_if_icmpne cd_49_160 (by decide) h7 h8
theorem b_49_163 {d : Nat} {Q : (Option Value ⊕ Nat) → mi_H → Prop} (n sl : Nat) (f : Nat → mi_C) {l1 : Nat} {l2 : Int32} {l3 : Int32} {l4 : Int32} {l5 : Int32} {l6 : Int32} {fs7 : List Value} {x10 : Nat} {fs12 : List Value} {x15 : Nat} {fs17 : List Value} (h8 : f l1 = .inr (3, fs7)) (h9 : l1 < n) (h11 : fs7[1]? = some (.ref x10)) (h13 : f x10 = .inr (2, fs12)) (h14 : x10 < n) (h16 : fs12[4]? = some (.ref x15)) (h18 : f l1 = .inr (3, fs17)) (h19 : l1 < n) (h20 : mi_W d 47 0 (mi_en 5 [.ref l1]) [] (n, sl, f) (mi_Kc d 49 173 [some (.ref l1), some (.int l2), some (.int l3), some (.int l4), some (.int l5), some (.int l6)] [.int l6, .ref x15] Q)) : mi_W (d + 1) 49 163 [some (.ref l1), some (.int l2), some (.int l3), some (.int l4), some (.int l5), some (.int l6)] [] (n, sl, f) Q := by
  refine w_aload_n cd_49_163 rfl ?_
  refine w_getfield cd_49_164 (show mt_f 3 19 = some (3, 1) by decide +kernel) h8 h9 h11 ?_
  refine w_getfield cd_49_167 (show mt_f 3 128 = some (2, 4) by decide +kernel) h13 h14 h16 ?_
  refine w_iload cd_49_170 rfl ?_
  refine w_aload_n cd_49_172 rfl ?_
  exact w_invokevirtual cd_49_173 (show mt_m 3 157 = some (47, 0) by decide +kernel) (rest := [.int l6, .ref x15]) rfl (as := [.ref l1]) rfl h18 (Or.inl h19) ⟨Nat.le_of_ble_eq_true rfl, Nat.le_of_ble_eq_true rfl, Nat.le_of_ble_eq_true rfl⟩ h20
theorem b_49_176 {d : Nat} {Q : (Option Value ⊕ Nat) → mi_H → Prop} (n sl : Nat) (f : Nat → mi_C) {l1 : Nat} {l2 : Int32} {l3 : Int32} {l4 : Int32} {l5 : Int32} {l6 : Int32} {s7 : Int32} {s8 : Int32} {s9 : Nat} (m10 i10 : Nat) (g10 : Nat → Int32) {fs14 : List Value} (h11 : f s9 = .inl (0, m10, .inl g10)) (h12 : s9 < n) (h13 : mi_ix s8 m10 i10) (h15 : (va_up f s9 (.inl (0, m10, .inl (upd g10 i10 s7)))) l1 = .inr (3, fs14)) (h16 : l1 < n) (h17 : mi_W d 50 0 (mi_en 5 [.ref l1, .int l6]) [] (n, sl, (va_up f s9 (.inl (0, m10, .inl (upd g10 i10 s7))))) (mi_Kc d 49 180 [some (.ref l1), some (.int l2), some (.int l3), some (.int l4), some (.int l5), some (.int l6)] [] Q)) : mi_W (d + 1) 49 176 [some (.ref l1), some (.int l2), some (.int l3), some (.int l4), some (.int l5), some (.int l6)] [.int s7, .int s8, .ref s9] (n, sl, f) Q := by
  refine w_iastore cd_49_176 h11 h12 h13 ?_
  refine w_aload_n cd_49_177 rfl ?_
  refine w_iload cd_49_178 rfl ?_
  exact w_invokevirtual cd_49_180 (show mt_m 3 160 = some (50, 0) by decide +kernel) (rest := []) rfl (as := [.ref l1, .int l6]) rfl h15 (Or.inl h16) ⟨Nat.le_of_ble_eq_true rfl, Nat.le_of_ble_eq_true rfl, Nat.le_of_ble_eq_true rfl⟩ h17
theorem b_49_183 {d : Nat} {Q : (Option Value ⊕ Nat) → mi_H → Prop} (n sl : Nat) (f : Nat → mi_C) {l1 : Nat} {l2 : Int32} {l3 : Int32} {l4 : Int32} {l5 : Int32} {l6 : Int32} (h7 : mi_W d 49 203 [some (.ref l1), some (.int l2), some (.int l3), some (.int l4), some (.int l5), some (.int l6)] [] (n, sl, f) Q) : mi_W d 49 183 [some (.ref l1), some (.int l2), some (.int l3), some (.int l4), some (.int l5), some (.int l6)] [] (n, sl, f) Q := by
  exact w_goto cd_49_183 (by decide) h7
theorem b_49_186 {d : Nat} {Q : (Option Value ⊕ Nat) → mi_H → Prop} (n sl : Nat) (f : Nat → mi_C) {l1 : Nat} {l2 : Int32} {l3 : Int32} {l4 : Int32} {l5 : Int32} {l6 : Int32} {fs7 : List Value} {x10 : Nat} {fs12 : List Value} {x15 : Nat} {fs17 : List Value} (h8 : f l1 = .inr (3, fs7)) (h9 : l1 < n) (h11 : fs7[1]? = some (.ref x10)) (h13 : f x10 = .inr (2, fs12)) (h14 : x10 < n) (h16 : fs12[1]? = some (.ref x15)) (h18 : f l1 = .inr (3, fs17)) (h19 : l1 < n) (h20 : mi_W d 48 0 (mi_en 5 [.ref l1, .int (l4 + 1)]) [] (n, sl, f) (mi_Kc d 49 199 [some (.ref l1), some (.int l2), some (.int l3), some (.int l4), some (.int l5), some (.int l6)] [.int l6, .ref x15] Q)) : mi_W (d + 1) 49 186 [some (.ref l1), some (.int l2), some (.int l3), some (.int l4), some (.int l5), some (.int l6)] [] (n, sl, f) Q := by
  refine w_aload_n cd_49_186 rfl ?_
  refine w_getfield cd_49_187 (show mt_f 3 19 = some (3, 1) by decide +kernel) h8 h9 h11 ?_
  refine w_getfield cd_49_190 (show mt_f 3 109 = some (2, 1) by decide +kernel) h13 h14 h16 ?_
  refine w_iload cd_49_193 rfl ?_
  refine w_aload_n cd_49_195 rfl ?_
  refine w_iload_n cd_49_196 rfl ?_
  refine w_iconst (v := 1) cd_49_197 (by decide) ?_
  refine w_iadd cd_49_198 ?_
  exact w_invokevirtual cd_49_199 (show mt_m 3 135 = some (48, 0) by decide +kernel) (rest := [.int l6, .ref x15]) rfl (as := [.ref l1, .int (l4 + 1)]) rfl h18 (Or.inl h19) ⟨Nat.le_of_ble_eq_true rfl, Nat.le_of_ble_eq_true rfl, Nat.le_of_ble_eq_true rfl⟩ h20
theorem b_49_202 {d : Nat} {Q : (Option Value ⊕ Nat) → mi_H → Prop} (n sl : Nat) (f : Nat → mi_C) {l1 : Nat} {l2 : Int32} {l3 : Int32} {l4 : Int32} {l5 : Int32} {l6 : Int32} {s7 : Int32} {s8 : Int32} {s9 : Nat} (m10 i10 : Nat) (g10 : Nat → Int32) (h11 : f s9 = .inl (0, m10, .inl g10)) (h12 : s9 < n) (h13 : mi_ix s8 m10 i10) (h14 : mi_W d 49 203 [some (.ref l1), some (.int l2), some (.int l3), some (.int l4), some (.int l5), some (.int l6)] [] (n, sl, (va_up f s9 (.inl (0, m10, .inl (upd g10 i10 s7))))) Q) : mi_W d 49 202 [some (.ref l1), some (.int l2), some (.int l3), some (.int l4), some (.int l5), some (.int l6)] [.int s7, .int s8, .ref s9] (n, sl, f) Q := by
  refine w_iastore cd_49_202 h11 h12 h13 ?_
  exact h14
theorem b_49_203 {d : Nat} {Q : (Option Value ⊕ Nat) → mi_H → Prop} (n sl : Nat) (f : Nat → mi_C) {l1 : Nat} {l2 : Int32} {l3 : Int32} {l4 : Int32} {l5 : Int32} {l6 : Int32} {fs7 : List Value} {x10 : Nat} {fs12 : List Value} {x15 : Nat} {fs17 : List Value} (h8 : f l1 = .inr (3, fs7)) (h9 : l1 < n) (h11 : fs7[1]? = some (.ref x10)) (h13 : f x10 = .inr (2, fs12)) (h14 : x10 < n) (h16 : fs12[2]? = some (.ref x15)) (h18 : f l1 = .inr (3, fs17)) (h19 : l1 < n) (h20 : mi_W d 37 0 (mi_en 6 [.ref l1, .int (l4 + 1)]) [] (n, sl, f) (mi_Kc d 49 216 [some (.ref l1), some (.int l2), some (.int l3), some (.int l4), some (.int l5), some (.int l6)] [.int l6, .ref x15] Q)) : mi_W (d + 1) 49 203 [some (.ref l1), some (.int l2), some (.int l3), some (.int l4), some (.int l5), some (.int l6)] [] (n, sl, f) Q := by
  refine w_aload_n cd_49_203 rfl ?_
  refine w_getfield cd_49_204 (show mt_f 3 19 = some (3, 1) by decide +kernel) h8 h9 h11 ?_
  refine w_getfield cd_49_207 (show mt_f 3 138 = some (2, 2) by decide +kernel) h13 h14 h16 ?_
  refine w_iload cd_49_210 rfl ?_
  refine w_aload_n cd_49_212 rfl ?_
  refine w_iload_n cd_49_213 rfl ?_
  refine w_iconst (v := 1) cd_49_214 (by decide) ?_
  refine w_iadd cd_49_215 ?_
  exact w_invokevirtual cd_49_216 (show mt_m 3 96 = some (37, 0) by decide +kernel) (rest := [.int l6, .ref x15]) rfl (as := [.ref l1, .int (l4 + 1)]) rfl h18 (Or.inl h19) ⟨Nat.le_of_ble_eq_true rfl, Nat.le_of_ble_eq_true rfl, Nat.le_of_ble_eq_true rfl⟩ h20
theorem b_49_219 {d : Nat} {Q : (Option Value ⊕ Nat) → mi_H → Prop} (n sl : Nat) (f : Nat → mi_C) {l1 : Nat} {l2 : Int32} {l3 : Int32} {l4 : Int32} {l5 : Int32} {l6 : Int32} {s7 : Int32} {s8 : Int32} {s9 : Nat} (m10 i10 : Nat) (g10 : Nat → Int32) (h11 : f s9 = .inl (0, m10, .inl g10)) (h12 : s9 < n) (h13 : mi_ix s8 m10 i10) (h14 : Q (.inl (some (.int l6))) (n, sl, (va_up f s9 (.inl (0, m10, .inl (upd g10 i10 s7)))))) : mi_W d 49 219 [some (.ref l1), some (.int l2), some (.int l3), some (.int l4), some (.int l5), some (.int l6)] [.int s7, .int s8, .ref s9] (n, sl, f) Q := by
  refine w_iastore cd_49_219 h11 h12 h13 ?_
  refine w_iload cd_49_220 rfl ?_
  exact w_ireturn_i cd_49_222 (by decide +kernel) h14
/-! MarloweHost$Reader.readBounds(I)V -/
set_option maxRecDepth 100000 in
theorem mq_50 : mt_q 50 = my_50 := rfl
set_option maxRecDepth 100000 in
theorem ci_50 : mt_inc 0 my_50.cd = true := by decide +kernel
theorem cd_50_0 : mt_cd 50 0 = some (.aload_n 0) := mt_cd_of (q := (0, .aload_n 0, 1)) mq_50 ci_50 (List.mem_of_getElem? (i := 0) rfl)
theorem cd_50_1 : mt_cd 50 1 = some (.bipush 26) := mt_cd_of (q := (1, .bipush 26, 2)) mq_50 ci_50 (List.mem_of_getElem? (i := 1) rfl)
theorem cd_50_3 : mt_cd 50 3 = some (.invokevirtual 99) := mt_cd_of (q := (3, .invokevirtual 99, 3)) mq_50 ci_50 (List.mem_of_getElem? (i := 2) rfl)
theorem cd_50_6 : mt_cd 50 6 = some (.aload_n 0) := mt_cd_of (q := (6, .aload_n 0, 1)) mq_50 ci_50 (List.mem_of_getElem? (i := 3) rfl)
theorem cd_50_7 : mt_cd 50 7 = some (.getfield 19) := mt_cd_of (q := (7, .getfield 19, 3)) mq_50 ci_50 (List.mem_of_getElem? (i := 4) rfl)
theorem cd_50_10 : mt_cd 50 10 = some (.getfield 151) := mt_cd_of (q := (10, .getfield 151, 3)) mq_50 ci_50 (List.mem_of_getElem? (i := 5) rfl)
theorem cd_50_13 : mt_cd 50 13 = some (.iload_n 1) := mt_cd_of (q := (13, .iload_n 1, 1)) mq_50 ci_50 (List.mem_of_getElem? (i := 6) rfl)
theorem cd_50_14 : mt_cd 50 14 = some (.aload_n 0) := mt_cd_of (q := (14, .aload_n 0, 1)) mq_50 ci_50 (List.mem_of_getElem? (i := 7) rfl)
theorem cd_50_15 : mt_cd 50 15 = some (.getfield 19) := mt_cd_of (q := (15, .getfield 19, 3)) mq_50 ci_50 (List.mem_of_getElem? (i := 8) rfl)
theorem cd_50_18 : mt_cd 50 18 = some (.getfield 163) := mt_cd_of (q := (18, .getfield 163, 3)) mq_50 ci_50 (List.mem_of_getElem? (i := 9) rfl)
theorem cd_50_21 : mt_cd 50 21 = some (.iastore) := mt_cd_of (q := (21, .iastore, 1)) mq_50 ci_50 (List.mem_of_getElem? (i := 10) rfl)
theorem cd_50_22 : mt_cd 50 22 = some (.iconst 0) := mt_cd_of (q := (22, .iconst 0, 1)) mq_50 ci_50 (List.mem_of_getElem? (i := 11) rfl)
theorem cd_50_23 : mt_cd 50 23 = some (.istore_n 2) := mt_cd_of (q := (23, .istore_n 2, 1)) mq_50 ci_50 (List.mem_of_getElem? (i := 12) rfl)
theorem cd_50_24 : mt_cd 50 24 = some (.iload_n 2) := mt_cd_of (q := (24, .iload_n 2, 1)) mq_50 ci_50 (List.mem_of_getElem? (i := 13) rfl)
theorem cd_50_25 : mt_cd 50 25 = some (.sipush 4096) := mt_cd_of (q := (25, .sipush 4096, 3)) mq_50 ci_50 (List.mem_of_getElem? (i := 14) rfl)
theorem cd_50_28 : mt_cd 50 28 = some (.if_icmp .ge 89) := mt_cd_of (q := (28, .if_icmp .ge 89, 3)) mq_50 ci_50 (List.mem_of_getElem? (i := 15) rfl)
theorem cd_50_31 : mt_cd 50 31 = some (.iload_n 2) := mt_cd_of (q := (31, .iload_n 2, 1)) mq_50 ci_50 (List.mem_of_getElem? (i := 16) rfl)
theorem cd_50_32 : mt_cd 50 32 = some (.ifCond .eq 15) := mt_cd_of (q := (32, .ifCond .eq 15, 3)) mq_50 ci_50 (List.mem_of_getElem? (i := 17) rfl)
theorem cd_50_35 : mt_cd 50 35 = some (.aload_n 0) := mt_cd_of (q := (35, .aload_n 0, 1)) mq_50 ci_50 (List.mem_of_getElem? (i := 18) rfl)
theorem cd_50_36 : mt_cd 50 36 = some (.getfield 15) := mt_cd_of (q := (36, .getfield 15, 3)) mq_50 ci_50 (List.mem_of_getElem? (i := 19) rfl)
theorem cd_50_39 : mt_cd 50 39 = some (.getfield 67) := mt_cd_of (q := (39, .getfield 67, 3)) mq_50 ci_50 (List.mem_of_getElem? (i := 20) rfl)
theorem cd_50_42 : mt_cd 50 42 = some (.bipush 27) := mt_cd_of (q := (42, .bipush 27, 2)) mq_50 ci_50 (List.mem_of_getElem? (i := 21) rfl)
theorem cd_50_44 : mt_cd 50 44 = some (.if_icmp .eq 73) := mt_cd_of (q := (44, .if_icmp .eq 73, 3)) mq_50 ci_50 (List.mem_of_getElem? (i := 22) rfl)
theorem cd_50_47 : mt_cd 50 47 = some (.aload_n 0) := mt_cd_of (q := (47, .aload_n 0, 1)) mq_50 ci_50 (List.mem_of_getElem? (i := 23) rfl)
theorem cd_50_48 : mt_cd 50 48 = some (.invokevirtual 124) := mt_cd_of (q := (48, .invokevirtual 124, 3)) mq_50 ci_50 (List.mem_of_getElem? (i := 24) rfl)
theorem cd_50_51 : mt_cd 50 51 = some (.lstore_n 3) := mt_cd_of (q := (51, .lstore_n 3, 1)) mq_50 ci_50 (List.mem_of_getElem? (i := 25) rfl)
theorem cd_50_52 : mt_cd 50 52 = some (.aload_n 0) := mt_cd_of (q := (52, .aload_n 0, 1)) mq_50 ci_50 (List.mem_of_getElem? (i := 26) rfl)
theorem cd_50_53 : mt_cd 50 53 = some (.aload_n 0) := mt_cd_of (q := (53, .aload_n 0, 1)) mq_50 ci_50 (List.mem_of_getElem? (i := 27) rfl)
theorem cd_50_54 : mt_cd 50 54 = some (.getfield 15) := mt_cd_of (q := (54, .getfield 15, 3)) mq_50 ci_50 (List.mem_of_getElem? (i := 28) rfl)
theorem cd_50_57 : mt_cd 50 57 = some (.getfield 67) := mt_cd_of (q := (57, .getfield 67, 3)) mq_50 ci_50 (List.mem_of_getElem? (i := 29) rfl)
theorem cd_50_60 : mt_cd 50 60 = some (.bipush 37) := mt_cd_of (q := (60, .bipush 37, 2)) mq_50 ci_50 (List.mem_of_getElem? (i := 30) rfl)
theorem cd_50_62 : mt_cd 50 62 = some (.if_icmp .ne 19) := mt_cd_of (q := (62, .if_icmp .ne 19, 3)) mq_50 ci_50 (List.mem_of_getElem? (i := 31) rfl)
theorem cd_50_65 : mt_cd 50 65 = some (.aload_n 0) := mt_cd_of (q := (65, .aload_n 0, 1)) mq_50 ci_50 (List.mem_of_getElem? (i := 32) rfl)
theorem cd_50_66 : mt_cd 50 66 = some (.getfield 15) := mt_cd_of (q := (66, .getfield 15, 3)) mq_50 ci_50 (List.mem_of_getElem? (i := 33) rfl)
theorem cd_50_69 : mt_cd 50 69 = some (.getfield 88) := mt_cd_of (q := (69, .getfield 88, 3)) mq_50 ci_50 (List.mem_of_getElem? (i := 34) rfl)
theorem cd_50_72 : mt_cd 50 72 = some (.lload_n 3) := mt_cd_of (q := (72, .lload_n 3, 1)) mq_50 ci_50 (List.mem_of_getElem? (i := 35) rfl)
theorem cd_50_73 : mt_cd 50 73 = some (.lcmp) := mt_cd_of (q := (73, .lcmp, 1)) mq_50 ci_50 (List.mem_of_getElem? (i := 36) rfl)
theorem cd_50_74 : mt_cd 50 74 = some (.ifCond .lt 7) := mt_cd_of (q := (74, .ifCond .lt 7, 3)) mq_50 ci_50 (List.mem_of_getElem? (i := 37) rfl)
theorem cd_50_77 : mt_cd 50 77 = some (.iconst 1) := mt_cd_of (q := (77, .iconst 1, 1)) mq_50 ci_50 (List.mem_of_getElem? (i := 38) rfl)
theorem cd_50_78 : mt_cd 50 78 = some (.goto 4) := mt_cd_of (q := (78, .goto 4, 3)) mq_50 ci_50 (List.mem_of_getElem? (i := 39) rfl)
theorem cd_50_81 : mt_cd 50 81 = some (.iconst 0) := mt_cd_of (q := (81, .iconst 0, 1)) mq_50 ci_50 (List.mem_of_getElem? (i := 40) rfl)
theorem cd_50_82 : mt_cd 50 82 = some (.invokevirtual 70) := mt_cd_of (q := (82, .invokevirtual 70, 3)) mq_50 ci_50 (List.mem_of_getElem? (i := 41) rfl)
theorem cd_50_85 : mt_cd 50 85 = some (.aload_n 0) := mt_cd_of (q := (85, .aload_n 0, 1)) mq_50 ci_50 (List.mem_of_getElem? (i := 42) rfl)
theorem cd_50_86 : mt_cd 50 86 = some (.aload_n 0) := mt_cd_of (q := (86, .aload_n 0, 1)) mq_50 ci_50 (List.mem_of_getElem? (i := 43) rfl)
theorem cd_50_87 : mt_cd 50 87 = some (.getfield 19) := mt_cd_of (q := (87, .getfield 19, 3)) mq_50 ci_50 (List.mem_of_getElem? (i := 44) rfl)
theorem cd_50_90 : mt_cd 50 90 = some (.lload_n 3) := mt_cd_of (q := (90, .lload_n 3, 1)) mq_50 ci_50 (List.mem_of_getElem? (i := 45) rfl)
theorem cd_50_91 : mt_cd 50 91 = some (.aload_n 0) := mt_cd_of (q := (91, .aload_n 0, 1)) mq_50 ci_50 (List.mem_of_getElem? (i := 46) rfl)
theorem cd_50_92 : mt_cd 50 92 = some (.getfield 15) := mt_cd_of (q := (92, .getfield 15, 3)) mq_50 ci_50 (List.mem_of_getElem? (i := 47) rfl)
theorem cd_50_95 : mt_cd 50 95 = some (.getfield 88) := mt_cd_of (q := (95, .getfield 88, 3)) mq_50 ci_50 (List.mem_of_getElem? (i := 48) rfl)
theorem cd_50_98 : mt_cd 50 98 = some (.invokevirtual 166) := mt_cd_of (q := (98, .invokevirtual 166, 3)) mq_50 ci_50 (List.mem_of_getElem? (i := 49) rfl)
theorem cd_50_101 : mt_cd 50 101 = some (.invokevirtual 70) := mt_cd_of (q := (101, .invokevirtual 70, 3)) mq_50 ci_50 (List.mem_of_getElem? (i := 50) rfl)
theorem cd_50_104 : mt_cd 50 104 = some (.aload_n 0) := mt_cd_of (q := (104, .aload_n 0, 1)) mq_50 ci_50 (List.mem_of_getElem? (i := 51) rfl)
theorem cd_50_105 : mt_cd 50 105 = some (.getfield 15) := mt_cd_of (q := (105, .getfield 15, 3)) mq_50 ci_50 (List.mem_of_getElem? (i := 52) rfl)
theorem cd_50_108 : mt_cd 50 108 = some (.invokevirtual 84) := mt_cd_of (q := (108, .invokevirtual 84, 3)) mq_50 ci_50 (List.mem_of_getElem? (i := 53) rfl)
theorem cd_50_111 : mt_cd 50 111 = some (.iinc 2 1) := mt_cd_of (q := (111, .iinc 2 1, 3)) mq_50 ci_50 (List.mem_of_getElem? (i := 54) rfl)
theorem cd_50_114 : mt_cd 50 114 = some (.goto (-90)) := mt_cd_of (q := (114, .goto (-90), 3)) mq_50 ci_50 (List.mem_of_getElem? (i := 55) rfl)
theorem cd_50_117 : mt_cd 50 117 = some (.aload_n 0) := mt_cd_of (q := (117, .aload_n 0, 1)) mq_50 ci_50 (List.mem_of_getElem? (i := 56) rfl)
theorem cd_50_118 : mt_cd 50 118 = some (.bipush 27) := mt_cd_of (q := (118, .bipush 27, 2)) mq_50 ci_50 (List.mem_of_getElem? (i := 57) rfl)
theorem cd_50_120 : mt_cd 50 120 = some (.invokevirtual 99) := mt_cd_of (q := (120, .invokevirtual 99, 3)) mq_50 ci_50 (List.mem_of_getElem? (i := 58) rfl)
theorem cd_50_123 : mt_cd 50 123 = some (.aload_n 0) := mt_cd_of (q := (123, .aload_n 0, 1)) mq_50 ci_50 (List.mem_of_getElem? (i := 59) rfl)
theorem cd_50_124 : mt_cd 50 124 = some (.getfield 19) := mt_cd_of (q := (124, .getfield 19, 3)) mq_50 ci_50 (List.mem_of_getElem? (i := 60) rfl)
theorem cd_50_127 : mt_cd 50 127 = some (.getfield 154) := mt_cd_of (q := (127, .getfield 154, 3)) mq_50 ci_50 (List.mem_of_getElem? (i := 61) rfl)
theorem cd_50_130 : mt_cd 50 130 = some (.iload_n 1) := mt_cd_of (q := (130, .iload_n 1, 1)) mq_50 ci_50 (List.mem_of_getElem? (i := 62) rfl)
theorem cd_50_131 : mt_cd 50 131 = some (.aload_n 0) := mt_cd_of (q := (131, .aload_n 0, 1)) mq_50 ci_50 (List.mem_of_getElem? (i := 63) rfl)
theorem cd_50_132 : mt_cd 50 132 = some (.getfield 19) := mt_cd_of (q := (132, .getfield 19, 3)) mq_50 ci_50 (List.mem_of_getElem? (i := 64) rfl)
theorem cd_50_135 : mt_cd 50 135 = some (.getfield 163) := mt_cd_of (q := (135, .getfield 163, 3)) mq_50 ci_50 (List.mem_of_getElem? (i := 65) rfl)
theorem cd_50_138 : mt_cd 50 138 = some (.iastore) := mt_cd_of (q := (138, .iastore, 1)) mq_50 ci_50 (List.mem_of_getElem? (i := 66) rfl)
theorem cd_50_139 : mt_cd 50 139 = some (.return_) := mt_cd_of (q := (139, .return_, 1)) mq_50 ci_50 (List.mem_of_getElem? (i := 67) rfl)
theorem b_50_0 {d : Nat} {Q : (Option Value ⊕ Nat) → mi_H → Prop} (n sl : Nat) (f : Nat → mi_C) {l1 : Nat} {l2 : Int32} {o3 : Option Value} {o4 : Option Value} {o5 : Option Value} {fs6 : List Value} (h7 : f l1 = .inr (3, fs6)) (h8 : l1 < n) (h9 : mi_W d 39 0 (mi_en 2 [.ref l1, .int 26]) [] (n, sl, f) (mi_Kc d 50 3 [some (.ref l1), some (.int l2), o3, o4, o5] [] Q)) : mi_W (d + 1) 50 0 [some (.ref l1), some (.int l2), o3, o4, o5] [] (n, sl, f) Q := by
  refine w_aload_n cd_50_0 rfl ?_
  refine w_bipush (v := 26) cd_50_1 (by decide) ?_
  exact w_invokevirtual cd_50_3 (show mt_m 3 99 = some (39, 0) by decide +kernel) (rest := []) rfl (as := [.ref l1, .int 26]) rfl h7 (Or.inl h8) ⟨Nat.le_of_ble_eq_true rfl, Nat.le_of_ble_eq_true rfl, Nat.le_of_ble_eq_true rfl⟩ h9
theorem b_50_6 {d : Nat} {Q : (Option Value ⊕ Nat) → mi_H → Prop} (n sl : Nat) (f : Nat → mi_C) {l1 : Nat} {l2 : Int32} {o3 : Option Value} {o4 : Option Value} {o5 : Option Value} {fs6 : List Value} {x9 : Nat} {fs11 : List Value} {x14 : Nat} {fs16 : List Value} {x19 : Nat} {fs21 : List Value} {x24 : Int32} (m26 i26 : Nat) (g26 : Nat → Int32) (h7 : f l1 = .inr (3, fs6)) (h8 : l1 < n) (h10 : fs6[1]? = some (.ref x9)) (h12 : f x9 = .inr (2, fs11)) (h13 : x9 < n) (h15 : fs11[5]? = some (.ref x14)) (h17 : f l1 = .inr (3, fs16)) (h18 : l1 < n) (h20 : fs16[1]? = some (.ref x19)) (h22 : f x19 = .inr (2, fs21)) (h23 : x19 < n) (h25 : fs21[12]? = some (.int x24)) (h27 : f x14 = .inl (0, m26, .inl g26)) (h28 : x14 < n) (h29 : mi_ix l2 m26 i26) (h30 : mi_W d 50 24 [some (.ref l1), some (.int l2), some (.int 0), o4, o5] [] (n, sl, (va_up f x14 (.inl (0, m26, .inl (upd g26 i26 x24))))) Q) : mi_W d 50 6 [some (.ref l1), some (.int l2), o3, o4, o5] [] (n, sl, f) Q := by
  refine w_aload_n cd_50_6 rfl ?_
  refine w_getfield cd_50_7 (show mt_f 3 19 = some (3, 1) by decide +kernel) h7 h8 h10 ?_
  refine w_getfield cd_50_10 (show mt_f 3 151 = some (2, 5) by decide +kernel) h12 h13 h15 ?_
  refine w_iload_n cd_50_13 rfl ?_
  refine w_aload_n cd_50_14 rfl ?_
  refine w_getfield cd_50_15 (show mt_f 3 19 = some (3, 1) by decide +kernel) h17 h18 h20 ?_
  refine w_getfield cd_50_18 (show mt_f 3 163 = some (2, 12) by decide +kernel) h22 h23 h25 ?_
  refine w_iastore cd_50_21 h27 h28 h29 ?_
  refine w_iconst (v := 0) cd_50_22 (by decide) ?_
  refine w_istore_n (ls' := [some (.ref l1), some (.int l2), some (.int 0), o4, o5]) cd_50_23 (Nat.le_of_ble_eq_true rfl) rfl ?_
  exact h30
theorem b_50_24 {d : Nat} {Q : (Option Value ⊕ Nat) → mi_H → Prop} (n sl : Nat) (f : Nat → mi_C) {l1 : Nat} {l2 : Int32} {l3 : Int32} {o4 : Option Value} {o5 : Option Value} (h6 : 4096 ≤ l3 → mi_W d 50 117 [some (.ref l1), some (.int l2), some (.int l3), o4, o5] [] (n, sl, f) Q) (h7 : ¬ (4096 ≤ l3) → mi_W d 50 31 [some (.ref l1), some (.int l2), some (.int l3), o4, o5] [] (n, sl, f) Q) : mi_W d 50 24 [some (.ref l1), some (.int l2), some (.int l3), o4, o5] [] (n, sl, f) Q := by
  refine w_iload_n cd_50_24 rfl ?_
  refine w_sipush (v := 4096) cd_50_25 (by decide) ?_
  exact w_if_icmpge cd_50_28 (by decide) h6 h7
theorem b_50_31 {d : Nat} {Q : (Option Value ⊕ Nat) → mi_H → Prop} (n sl : Nat) (f : Nat → mi_C) {l1 : Nat} {l2 : Int32} {l3 : Int32} {o4 : Option Value} {o5 : Option Value} (h6 : l3 = (0 : Int32) → mi_W d 50 47 [some (.ref l1), some (.int l2), some (.int l3), o4, o5] [] (n, sl, f) Q) (h7 : ¬ (l3 = (0 : Int32)) → mi_W d 50 35 [some (.ref l1), some (.int l2), some (.int l3), o4, o5] [] (n, sl, f) Q) : mi_W d 50 31 [some (.ref l1), some (.int l2), some (.int l3), o4, o5] [] (n, sl, f) Q := by
  refine w_iload_n cd_50_31 rfl ?_
  exact w_ifeq cd_50_32 (by decide) h6 h7
theorem b_50_35 {d : Nat} {Q : (Option Value ⊕ Nat) → mi_H → Prop} (n sl : Nat) (f : Nat → mi_C) {l1 : Nat} {l2 : Int32} {l3 : Int32} {o4 : Option Value} {o5 : Option Value} {fs6 : List Value} {x9 : Nat} {fs11 : List Value} {x14 : Int32} (h7 : f l1 = .inr (3, fs6)) (h8 : l1 < n) (h10 : fs6[0]? = some (.ref x9)) (h12 : f x9 = .inr (1, fs11)) (h13 : x9 < n) (h15 : fs11[2]? = some (.int x14)) (h16 : x14 = 27 → mi_W d 50 117 [some (.ref l1), some (.int l2), some (.int l3), o4, o5] [] (n, sl, f) Q) (h17 : ¬ (x14 = 27) → mi_W d 50 47 [some (.ref l1), some (.int l2), some (.int l3), o4, o5] [] (n, sl, f) Q) : mi_W d 50 35 [some (.ref l1), some (.int l2), some (.int l3), o4, o5] [] (n, sl, f) Q := by
  refine w_aload_n cd_50_35 rfl ?_
  refine w_getfield cd_50_36 (show mt_f 3 15 = some (3, 0) by decide +kernel) h7 h8 h10 ?_
  refine w_getfield cd_50_39 (show mt_f 3 67 = some (1, 2) by decide +kernel) h12 h13 h15 ?_
  refine w_bipush (v := 27) cd_50_42 (by decide) ?_
  exact w_if_icmpeq cd_50_44 (by decide) h16 h17
theorem b_50_47 {d : Nat} {Q : (Option Value ⊕ Nat) → mi_H → Prop} (n sl : Nat) (f : Nat → mi_C) {l1 : Nat} {l2 : Int32} {l3 : Int32} {o4 : Option Value} {o5 : Option Value} {fs6 : List Value} (h7 : f l1 = .inr (3, fs6)) (h8 : l1 < n) (h9 : mi_W d 51 0 (mi_en 3 [.ref l1]) [] (n, sl, f) (mi_Kc d 50 48 [some (.ref l1), some (.int l2), some (.int l3), o4, o5] [] Q)) : mi_W (d + 1) 50 47 [some (.ref l1), some (.int l2), some (.int l3), o4, o5] [] (n, sl, f) Q := by
  refine w_aload_n cd_50_47 rfl ?_
  exact w_invokevirtual cd_50_48 (show mt_m 3 124 = some (51, 0) by decide +kernel) (rest := []) rfl (as := [.ref l1]) rfl h7 (Or.inl h8) ⟨Nat.le_of_ble_eq_true rfl, Nat.le_of_ble_eq_true rfl, Nat.le_of_ble_eq_true rfl⟩ h9
theorem b_50_51 {d : Nat} {Q : (Option Value ⊕ Nat) → mi_H → Prop} (n sl : Nat) (f : Nat → mi_C) {l1 : Nat} {l2 : Int32} {l3 : Int32} {o4 : Option Value} {o5 : Option Value} {s6 : Int64} {fs7 : List Value} {x10 : Nat} {fs12 : List Value} {x15 : Int32} (h8 : f l1 = .inr (3, fs7)) (h9 : l1 < n) (h11 : fs7[0]? = some (.ref x10)) (h13 : f x10 = .inr (1, fs12)) (h14 : x10 < n) (h16 : fs12[2]? = some (.int x15)) (h17 : ¬ x15 = 37 → mi_W d 50 81 [some (.ref l1), some (.int l2), some (.int l3), some (.long s6), none] [.ref l1] (n, sl, f) Q) (h18 : ¬ (¬ x15 = 37) → mi_W d 50 65 [some (.ref l1), some (.int l2), some (.int l3), some (.long s6), none] [.ref l1] (n, sl, f) Q) : mi_W d 50 51 [some (.ref l1), some (.int l2), some (.int l3), o4, o5] [.long s6] (n, sl, f) Q := by
  refine w_lstore_n (ls' := [some (.ref l1), some (.int l2), some (.int l3), some (.long s6), none]) cd_50_51 (Nat.le_of_ble_eq_true rfl) rfl ?_
  refine w_aload_n cd_50_52 rfl ?_
  refine w_aload_n cd_50_53 rfl ?_
  refine w_getfield cd_50_54 (show mt_f 3 15 = some (3, 0) by decide +kernel) h8 h9 h11 ?_
  refine w_getfield cd_50_57 (show mt_f 3 67 = some (1, 2) by decide +kernel) h13 h14 h16 ?_
  refine w_bipush (v := 37) cd_50_60 (by decide) ?_
  exact w_if_icmpne cd_50_62 (by decide) h17 h18
theorem b_50_65 {d : Nat} {Q : (Option Value ⊕ Nat) → mi_H → Prop} (n sl : Nat) (f : Nat → mi_C) {l1 : Nat} {l2 : Int32} {l3 : Int32} {l4 : Int64} {s5 : Nat} {fs6 : List Value} {x9 : Nat} {fs11 : List Value} {x14 : Int64} (h7 : f l1 = .inr (3, fs6)) (h8 : l1 < n) (h10 : fs6[0]? = some (.ref x9)) (h12 : f x9 = .inr (1, fs11)) (h13 : x9 < n) (h15 : fs11[5]? = some (.long x14)) (h16 : (lg_cmp x14 l4) < (0 : Int32) → mi_W d 50 81 [some (.ref l1), some (.int l2), some (.int l3), some (.long l4), none] [.ref s5] (n, sl, f) Q) (h17 : ¬ ((lg_cmp x14 l4) < (0 : Int32)) → mi_W d 50 77 [some (.ref l1), some (.int l2), some (.int l3), some (.long l4), none] [.ref s5] (n, sl, f) Q) : mi_W d 50 65 [some (.ref l1), some (.int l2), some (.int l3), some (.long l4), none] [.ref s5] (n, sl, f) Q := by
  refine w_aload_n cd_50_65 rfl ?_
  refine w_getfield cd_50_66 (show mt_f 3 15 = some (3, 0) by decide +kernel) h7 h8 h10 ?_
  refine w_getfield cd_50_69 (show mt_f 3 88 = some (1, 5) by decide +kernel) h12 h13 h15 ?_
  refine w_lload_n cd_50_72 rfl ?_
  refine w_lcmp cd_50_73 ?_
  exact w_iflt cd_50_74 (by decide) h16 h17
theorem b_50_77 {d : Nat} {Q : (Option Value ⊕ Nat) → mi_H → Prop} (n sl : Nat) (f : Nat → mi_C) {l1 : Nat} {l2 : Int32} {l3 : Int32} {l4 : Int64} {s5 : Nat} (h6 : mi_W d 50 82 [some (.ref l1), some (.int l2), some (.int l3), some (.long l4), none] [.int 1, .ref s5] (n, sl, f) Q) : mi_W d 50 77 [some (.ref l1), some (.int l2), some (.int l3), some (.long l4), none] [.ref s5] (n, sl, f) Q := by
  refine w_iconst (v := 1) cd_50_77 (by decide) ?_
  exact w_goto cd_50_78 (by decide) h6
theorem b_50_81 {d : Nat} {Q : (Option Value ⊕ Nat) → mi_H → Prop} (n sl : Nat) (f : Nat → mi_C) {l1 : Nat} {l2 : Int32} {l3 : Int32} {l4 : Int64} {s5 : Nat} (h6 : mi_W d 50 82 [some (.ref l1), some (.int l2), some (.int l3), some (.long l4), none] [.int 0, .ref s5] (n, sl, f) Q) : mi_W d 50 81 [some (.ref l1), some (.int l2), some (.int l3), some (.long l4), none] [.ref s5] (n, sl, f) Q := by
  refine w_iconst (v := 0) cd_50_81 (by decide) ?_
  exact h6
theorem b_50_82 {d : Nat} {Q : (Option Value ⊕ Nat) → mi_H → Prop} (n sl : Nat) (f : Nat → mi_C) {l1 : Nat} {l2 : Int32} {l3 : Int32} {l4 : Int64} {s5 : Int32} {s6 : Nat} {fs7 : List Value} (h8 : f s6 = .inr (3, fs7)) (h9 : s6 < n) (h10 : mi_W d 38 0 (mi_en 2 [.ref s6, .int s5]) [] (n, sl, f) (mi_Kc d 50 82 [some (.ref l1), some (.int l2), some (.int l3), some (.long l4), none] [] Q)) : mi_W (d + 1) 50 82 [some (.ref l1), some (.int l2), some (.int l3), some (.long l4), none] [.int s5, .ref s6] (n, sl, f) Q := by
  exact w_invokevirtual cd_50_82 (show mt_m 3 70 = some (38, 0) by decide +kernel) (rest := []) rfl (as := [.ref s6, .int s5]) rfl h8 (Or.inl h9) ⟨Nat.le_of_ble_eq_true rfl, Nat.le_of_ble_eq_true rfl, Nat.le_of_ble_eq_true rfl⟩ h10
theorem b_50_85 {d : Nat} {Q : (Option Value ⊕ Nat) → mi_H → Prop} (n sl : Nat) (f : Nat → mi_C) {l1 : Nat} {l2 : Int32} {l3 : Int32} {l4 : Int64} {fs5 : List Value} {x8 : Nat} {fs10 : List Value} {x13 : Nat} {fs15 : List Value} {x18 : Int64} {fs20 : List Value} (h6 : f l1 = .inr (3, fs5)) (h7 : l1 < n) (h9 : fs5[1]? = some (.ref x8)) (h11 : f l1 = .inr (3, fs10)) (h12 : l1 < n) (h14 : fs10[0]? = some (.ref x13)) (h16 : f x13 = .inr (1, fs15)) (h17 : x13 < n) (h19 : fs15[5]? = some (.long x18)) (h21 : f x8 = .inr (2, fs20)) (h22 : x8 < n) (h23 : mi_W d 52 0 (mi_en 5 [.ref x8, .long l4, .long x18]) [] (n, sl, f) (mi_Kc d 50 98 [some (.ref l1), some (.int l2), some (.int l3), some (.long l4), none] [.ref l1] Q)) : mi_W (d + 1) 50 85 [some (.ref l1), some (.int l2), some (.int l3), some (.long l4), none] [] (n, sl, f) Q := by
  refine w_aload_n cd_50_85 rfl ?_
  refine w_aload_n cd_50_86 rfl ?_
  refine w_getfield cd_50_87 (show mt_f 3 19 = some (3, 1) by decide +kernel) h6 h7 h9 ?_
  refine w_lload_n cd_50_90 rfl ?_
  refine w_aload_n cd_50_91 rfl ?_
  refine w_getfield cd_50_92 (show mt_f 3 15 = some (3, 0) by decide +kernel) h11 h12 h14 ?_
  refine w_getfield cd_50_95 (show mt_f 3 88 = some (1, 5) by decide +kernel) h16 h17 h19 ?_
  exact w_invokevirtual cd_50_98 (show mt_m 3 166 = some (52, 0) by decide +kernel) (rest := [.ref l1]) rfl (as := [.ref x8, .long l4, .long x18]) rfl h21 (Or.inl h22) ⟨Nat.le_of_ble_eq_true rfl, Nat.le_of_ble_eq_true rfl, Nat.le_of_ble_eq_true rfl⟩ h23
theorem b_50_101 {d : Nat} {Q : (Option Value ⊕ Nat) → mi_H → Prop} (n sl : Nat) (f : Nat → mi_C) {l1 : Nat} {l2 : Int32} {l3 : Int32} {l4 : Int64} {s5 : Int32} {s6 : Nat} {fs7 : List Value} (h8 : f s6 = .inr (3, fs7)) (h9 : s6 < n) (h10 : mi_W d 38 0 (mi_en 2 [.ref s6, .int s5]) [] (n, sl, f) (mi_Kc d 50 101 [some (.ref l1), some (.int l2), some (.int l3), some (.long l4), none] [] Q)) : mi_W (d + 1) 50 101 [some (.ref l1), some (.int l2), some (.int l3), some (.long l4), none] [.int s5, .ref s6] (n, sl, f) Q := by
  exact w_invokevirtual cd_50_101 (show mt_m 3 70 = some (38, 0) by decide +kernel) (rest := []) rfl (as := [.ref s6, .int s5]) rfl h8 (Or.inl h9) ⟨Nat.le_of_ble_eq_true rfl, Nat.le_of_ble_eq_true rfl, Nat.le_of_ble_eq_true rfl⟩ h10
theorem b_50_104 {d : Nat} {Q : (Option Value ⊕ Nat) → mi_H → Prop} (n sl : Nat) (f : Nat → mi_C) {l1 : Nat} {l2 : Int32} {l3 : Int32} {l4 : Int64} {fs5 : List Value} {x8 : Nat} {fs10 : List Value} (h6 : f l1 = .inr (3, fs5)) (h7 : l1 < n) (h9 : fs5[0]? = some (.ref x8)) (h11 : f x8 = .inr (1, fs10)) (h12 : x8 < n) (h13 : mi_W d 24 0 (mi_en 2 [.ref x8]) [] (n, sl, f) (mi_Kc d 50 108 [some (.ref l1), some (.int l2), some (.int l3), some (.long l4), none] [] Q)) : mi_W (d + 1) 50 104 [some (.ref l1), some (.int l2), some (.int l3), some (.long l4), none] [] (n, sl, f) Q := by
  refine w_aload_n cd_50_104 rfl ?_
  refine w_getfield cd_50_105 (show mt_f 3 15 = some (3, 0) by decide +kernel) h6 h7 h9 ?_
  exact w_invokevirtual cd_50_108 (show mt_m 3 84 = some (24, 0) by decide +kernel) (rest := []) rfl (as := [.ref x8]) rfl h11 (Or.inl h12) ⟨Nat.le_of_ble_eq_true rfl, Nat.le_of_ble_eq_true rfl, Nat.le_of_ble_eq_true rfl⟩ h13
theorem b_50_111 {d : Nat} {Q : (Option Value ⊕ Nat) → mi_H → Prop} (n sl : Nat) (f : Nat → mi_C) {l1 : Nat} {l2 : Int32} {l3 : Int32} {l4 : Int64} (h5 : mi_W d 50 24 [some (.ref l1), some (.int l2), some (.int (l3 + 1)), some (.long l4), none] [] (n, sl, f) Q) : mi_W d 50 111 [some (.ref l1), some (.int l2), some (.int l3), some (.long l4), none] [] (n, sl, f) Q := by
  refine w_iinc (v := 1) (ls' := [some (.ref l1), some (.int l2), some (.int (l3 + 1)), some (.long l4), none]) cd_50_111 rfl (by decide) rfl ?_
  exact w_goto cd_50_114 (by decide) h5
theorem b_50_117 {d : Nat} {Q : (Option Value ⊕ Nat) → mi_H → Prop} (n sl : Nat) (f : Nat → mi_C) {l1 : Nat} {l2 : Int32} {l3 : Int32} {o4 : Option Value} {o5 : Option Value} {fs6 : List Value} (h7 : f l1 = .inr (3, fs6)) (h8 : l1 < n) (h9 : mi_W d 39 0 (mi_en 2 [.ref l1, .int 27]) [] (n, sl, f) (mi_Kc d 50 120 [some (.ref l1), some (.int l2), some (.int l3), o4, o5] [] Q)) : mi_W (d + 1) 50 117 [some (.ref l1), some (.int l2), some (.int l3), o4, o5] [] (n, sl, f) Q := by
  refine w_aload_n cd_50_117 rfl ?_
  refine w_bipush (v := 27) cd_50_118 (by decide) ?_
  exact w_invokevirtual cd_50_120 (show mt_m 3 99 = some (39, 0) by decide +kernel) (rest := []) rfl (as := [.ref l1, .int 27]) rfl h7 (Or.inl h8) ⟨Nat.le_of_ble_eq_true rfl, Nat.le_of_ble_eq_true rfl, Nat.le_of_ble_eq_true rfl⟩ h9
theorem b_50_123 {d : Nat} {Q : (Option Value ⊕ Nat) → mi_H → Prop} (n sl : Nat) (f : Nat → mi_C) {l1 : Nat} {l2 : Int32} {l3 : Int32} {o4 : Option Value} {o5 : Option Value} {fs6 : List Value} {x9 : Nat} {fs11 : List Value} {x14 : Nat} {fs16 : List Value} {x19 : Nat} {fs21 : List Value} {x24 : Int32} (m26 i26 : Nat) (g26 : Nat → Int32) (h7 : f l1 = .inr (3, fs6)) (h8 : l1 < n) (h10 : fs6[1]? = some (.ref x9)) (h12 : f x9 = .inr (2, fs11)) (h13 : x9 < n) (h15 : fs11[6]? = some (.ref x14)) (h17 : f l1 = .inr (3, fs16)) (h18 : l1 < n) (h20 : fs16[1]? = some (.ref x19)) (h22 : f x19 = .inr (2, fs21)) (h23 : x19 < n) (h25 : fs21[12]? = some (.int x24)) (h27 : f x14 = .inl (0, m26, .inl g26)) (h28 : x14 < n) (h29 : mi_ix l2 m26 i26) (h30 : Q (.inl none) (n, sl, (va_up f x14 (.inl (0, m26, .inl (upd g26 i26 x24)))))) : mi_W d 50 123 [some (.ref l1), some (.int l2), some (.int l3), o4, o5] [] (n, sl, f) Q := by
  refine w_aload_n cd_50_123 rfl ?_
  refine w_getfield cd_50_124 (show mt_f 3 19 = some (3, 1) by decide +kernel) h7 h8 h10 ?_
  refine w_getfield cd_50_127 (show mt_f 3 154 = some (2, 6) by decide +kernel) h12 h13 h15 ?_
  refine w_iload_n cd_50_130 rfl ?_
  refine w_aload_n cd_50_131 rfl ?_
  refine w_getfield cd_50_132 (show mt_f 3 19 = some (3, 1) by decide +kernel) h17 h18 h20 ?_
  refine w_getfield cd_50_135 (show mt_f 3 163 = some (2, 12) by decide +kernel) h22 h23 h25 ?_
  refine w_iastore cd_50_138 h27 h28 h29 ?_
  exact w_return cd_50_139 (by decide +kernel) h30
/-! MarloweHost$Reader.readNumber()J -/
set_option maxRecDepth 100000 in
theorem mq_51 : mt_q 51 = my_51 := rfl
set_option maxRecDepth 100000 in
theorem ci_51 : mt_inc 0 my_51.cd = true := by decide +kernel
theorem cd_51_0 : mt_cd 51 0 = some (.aload_n 0) := mt_cd_of (q := (0, .aload_n 0, 1)) mq_51 ci_51 (List.mem_of_getElem? (i := 0) rfl)
theorem cd_51_1 : mt_cd 51 1 = some (.aload_n 0) := mt_cd_of (q := (1, .aload_n 0, 1)) mq_51 ci_51 (List.mem_of_getElem? (i := 1) rfl)
theorem cd_51_2 : mt_cd 51 2 = some (.getfield 15) := mt_cd_of (q := (2, .getfield 15, 3)) mq_51 ci_51 (List.mem_of_getElem? (i := 2) rfl)
theorem cd_51_5 : mt_cd 51 5 = some (.getfield 67) := mt_cd_of (q := (5, .getfield 67, 3)) mq_51 ci_51 (List.mem_of_getElem? (i := 3) rfl)
theorem cd_51_8 : mt_cd 51 8 = some (.bipush 37) := mt_cd_of (q := (8, .bipush 37, 2)) mq_51 ci_51 (List.mem_of_getElem? (i := 4) rfl)
theorem cd_51_10 : mt_cd 51 10 = some (.if_icmp .ne 7) := mt_cd_of (q := (10, .if_icmp .ne 7, 3)) mq_51 ci_51 (List.mem_of_getElem? (i := 5) rfl)
theorem cd_51_13 : mt_cd 51 13 = some (.iconst 1) := mt_cd_of (q := (13, .iconst 1, 1)) mq_51 ci_51 (List.mem_of_getElem? (i := 6) rfl)
theorem cd_51_14 : mt_cd 51 14 = some (.goto 4) := mt_cd_of (q := (14, .goto 4, 3)) mq_51 ci_51 (List.mem_of_getElem? (i := 7) rfl)
theorem cd_51_17 : mt_cd 51 17 = some (.iconst 0) := mt_cd_of (q := (17, .iconst 0, 1)) mq_51 ci_51 (List.mem_of_getElem? (i := 8) rfl)
theorem cd_51_18 : mt_cd 51 18 = some (.invokevirtual 70) := mt_cd_of (q := (18, .invokevirtual 70, 3)) mq_51 ci_51 (List.mem_of_getElem? (i := 9) rfl)
theorem cd_51_21 : mt_cd 51 21 = some (.aload_n 0) := mt_cd_of (q := (21, .aload_n 0, 1)) mq_51 ci_51 (List.mem_of_getElem? (i := 10) rfl)
theorem cd_51_22 : mt_cd 51 22 = some (.getfield 15) := mt_cd_of (q := (22, .getfield 15, 3)) mq_51 ci_51 (List.mem_of_getElem? (i := 11) rfl)
theorem cd_51_25 : mt_cd 51 25 = some (.getfield 88) := mt_cd_of (q := (25, .getfield 88, 3)) mq_51 ci_51 (List.mem_of_getElem? (i := 12) rfl)
theorem cd_51_28 : mt_cd 51 28 = some (.lstore_n 1) := mt_cd_of (q := (28, .lstore_n 1, 1)) mq_51 ci_51 (List.mem_of_getElem? (i := 13) rfl)
theorem cd_51_29 : mt_cd 51 29 = some (.aload_n 0) := mt_cd_of (q := (29, .aload_n 0, 1)) mq_51 ci_51 (List.mem_of_getElem? (i := 14) rfl)
theorem cd_51_30 : mt_cd 51 30 = some (.getfield 15) := mt_cd_of (q := (30, .getfield 15, 3)) mq_51 ci_51 (List.mem_of_getElem? (i := 15) rfl)
theorem cd_51_33 : mt_cd 51 33 = some (.invokevirtual 84) := mt_cd_of (q := (33, .invokevirtual 84, 3)) mq_51 ci_51 (List.mem_of_getElem? (i := 16) rfl)
theorem cd_51_36 : mt_cd 51 36 = some (.lload_n 1) := mt_cd_of (q := (36, .lload_n 1, 1)) mq_51 ci_51 (List.mem_of_getElem? (i := 17) rfl)
theorem cd_51_37 : mt_cd 51 37 = some (.lreturn) := mt_cd_of (q := (37, .lreturn, 1)) mq_51 ci_51 (List.mem_of_getElem? (i := 18) rfl)
theorem b_51_0 {d : Nat} {Q : (Option Value ⊕ Nat) → mi_H → Prop} (n sl : Nat) (f : Nat → mi_C) {l1 : Nat} {o2 : Option Value} {o3 : Option Value} {fs4 : List Value} {x7 : Nat} {fs9 : List Value} {x12 : Int32} (h5 : f l1 = .inr (3, fs4)) (h6 : l1 < n) (h8 : fs4[0]? = some (.ref x7)) (h10 : f x7 = .inr (1, fs9)) (h11 : x7 < n) (h13 : fs9[2]? = some (.int x12)) (h14 : ¬ x12 = 37 → mi_W d 51 17 [some (.ref l1), o2, o3] [.ref l1] (n, sl, f) Q) (h15 : ¬ (¬ x12 = 37) → mi_W d 51 13 [some (.ref l1), o2, o3] [.ref l1] (n, sl, f) Q) : mi_W d 51 0 [some (.ref l1), o2, o3] [] (n, sl, f) Q := by
  refine w_aload_n cd_51_0 rfl ?_
  refine w_aload_n cd_51_1 rfl ?_
  refine w_getfield cd_51_2 (show mt_f 3 15 = some (3, 0) by decide +kernel) h5 h6 h8 ?_
  refine w_getfield cd_51_5 (show mt_f 3 67 = some (1, 2) by decide +kernel) h10 h11 h13 ?_
  refine w_bipush (v := 37) cd_51_8 (by decide) ?_
  exact w_if_icmpne cd_51_10 (by decide) h14 h15
theorem b_51_13 {d : Nat} {Q : (Option Value ⊕ Nat) → mi_H → Prop} (n sl : Nat) (f : Nat → mi_C) {l1 : Nat} {o2 : Option Value} {o3 : Option Value} {s4 : Nat} (h5 : mi_W d 51 18 [some (.ref l1), o2, o3] [.int 1, .ref s4] (n, sl, f) Q) : mi_W d 51 13 [some (.ref l1), o2, o3] [.ref s4] (n, sl, f) Q := by
  refine w_iconst (v := 1) cd_51_13 (by decide) ?_
  exact w_goto cd_51_14 (by decide) h5
theorem b_51_17 {d : Nat} {Q : (Option Value ⊕ Nat) → mi_H → Prop} (n sl : Nat) (f : Nat → mi_C) {l1 : Nat} {o2 : Option Value} {o3 : Option Value} {s4 : Nat} (h5 : mi_W d 51 18 [some (.ref l1), o2, o3] [.int 0, .ref s4] (n, sl, f) Q) : mi_W d 51 17 [some (.ref l1), o2, o3] [.ref s4] (n, sl, f) Q := by
  refine w_iconst (v := 0) cd_51_17 (by decide) ?_
  exact h5
theorem b_51_18 {d : Nat} {Q : (Option Value ⊕ Nat) → mi_H → Prop} (n sl : Nat) (f : Nat → mi_C) {l1 : Nat} {o2 : Option Value} {o3 : Option Value} {s4 : Int32} {s5 : Nat} {fs6 : List Value} (h7 : f s5 = .inr (3, fs6)) (h8 : s5 < n) (h9 : mi_W d 38 0 (mi_en 2 [.ref s5, .int s4]) [] (n, sl, f) (mi_Kc d 51 18 [some (.ref l1), o2, o3] [] Q)) : mi_W (d + 1) 51 18 [some (.ref l1), o2, o3] [.int s4, .ref s5] (n, sl, f) Q := by
  exact w_invokevirtual cd_51_18 (show mt_m 3 70 = some (38, 0) by decide +kernel) (rest := []) rfl (as := [.ref s5, .int s4]) rfl h7 (Or.inl h8) ⟨Nat.le_of_ble_eq_true rfl, Nat.le_of_ble_eq_true rfl, Nat.le_of_ble_eq_true rfl⟩ h9
theorem b_51_21 {d : Nat} {Q : (Option Value ⊕ Nat) → mi_H → Prop} (n sl : Nat) (f : Nat → mi_C) {l1 : Nat} {o2 : Option Value} {o3 : Option Value} {fs4 : List Value} {x7 : Nat} {fs9 : List Value} {x12 : Int64} {fs14 : List Value} {x17 : Nat} {fs19 : List Value} (h5 : f l1 = .inr (3, fs4)) (h6 : l1 < n) (h8 : fs4[0]? = some (.ref x7)) (h10 : f x7 = .inr (1, fs9)) (h11 : x7 < n) (h13 : fs9[5]? = some (.long x12)) (h15 : f l1 = .inr (3, fs14)) (h16 : l1 < n) (h18 : fs14[0]? = some (.ref x17)) (h20 : f x17 = .inr (1, fs19)) (h21 : x17 < n) (h22 : mi_W d 24 0 (mi_en 2 [.ref x17]) [] (n, sl, f) (mi_Kc d 51 33 [some (.ref l1), some (.long x12), none] [] Q)) : mi_W (d + 1) 51 21 [some (.ref l1), o2, o3] [] (n, sl, f) Q := by
  refine w_aload_n cd_51_21 rfl ?_
  refine w_getfield cd_51_22 (show mt_f 3 15 = some (3, 0) by decide +kernel) h5 h6 h8 ?_
  refine w_getfield cd_51_25 (show mt_f 3 88 = some (1, 5) by decide +kernel) h10 h11 h13 ?_
  refine w_lstore_n (ls' := [some (.ref l1), some (.long x12), none]) cd_51_28 (Nat.le_of_ble_eq_true rfl) rfl ?_
  refine w_aload_n cd_51_29 rfl ?_
  refine w_getfield cd_51_30 (show mt_f 3 15 = some (3, 0) by decide +kernel) h15 h16 h18 ?_
  exact w_invokevirtual cd_51_33 (show mt_m 3 84 = some (24, 0) by decide +kernel) (rest := []) rfl (as := [.ref x17]) rfl h20 (Or.inl h21) ⟨Nat.le_of_ble_eq_true rfl, Nat.le_of_ble_eq_true rfl, Nat.le_of_ble_eq_true rfl⟩ h22
theorem b_51_36 {d : Nat} {Q : (Option Value ⊕ Nat) → mi_H → Prop} (n sl : Nat) (f : Nat → mi_C) {l1 : Nat} {l2 : Int64} (h3 : Q (.inl (some (.long l2))) (n, sl, f)) : mi_W d 51 36 [some (.ref l1), some (.long l2), none] [] (n, sl, f) Q := by
  refine w_lload_n cd_51_36 rfl ?_
  exact w_lreturn cd_51_37 (by decide +kernel) h3
/-! MarloweHost$Tree.addBounds(JJ)Z -/
set_option maxRecDepth 100000 in
theorem mq_52 : mt_q 52 = my_52 := rfl
set_option maxRecDepth 100000 in
theorem ci_52 : mt_inc 0 my_52.cd = true := by decide +kernel
theorem cd_52_0 : mt_cd 52 0 = some (.aload_n 0) := mt_cd_of (q := (0, .aload_n 0, 1)) mq_52 ci_52 (List.mem_of_getElem? (i := 0) rfl)
theorem cd_52_1 : mt_cd 52 1 = some (.getfield 51) := mt_cd_of (q := (1, .getfield 51, 3)) mq_52 ci_52 (List.mem_of_getElem? (i := 1) rfl)
theorem cd_52_4 : mt_cd 52 4 = some (.iconst 2) := mt_cd_of (q := (4, .iconst 2, 1)) mq_52 ci_52 (List.mem_of_getElem? (i := 2) rfl)
theorem cd_52_5 : mt_cd 52 5 = some (.iadd) := mt_cd_of (q := (5, .iadd, 1)) mq_52 ci_52 (List.mem_of_getElem? (i := 3) rfl)
theorem cd_52_6 : mt_cd 52 6 = some (.sipush 4096) := mt_cd_of (q := (6, .sipush 4096, 3)) mq_52 ci_52 (List.mem_of_getElem? (i := 4) rfl)
theorem cd_52_9 : mt_cd 52 9 = some (.if_icmp .le 5) := mt_cd_of (q := (9, .if_icmp .le 5, 3)) mq_52 ci_52 (List.mem_of_getElem? (i := 5) rfl)
theorem cd_52_12 : mt_cd 52 12 = some (.iconst 0) := mt_cd_of (q := (12, .iconst 0, 1)) mq_52 ci_52 (List.mem_of_getElem? (i := 6) rfl)
theorem cd_52_13 : mt_cd 52 13 = some (.ireturn) := mt_cd_of (q := (13, .ireturn, 1)) mq_52 ci_52 (List.mem_of_getElem? (i := 7) rfl)
theorem cd_52_14 : mt_cd 52 14 = some (.aload_n 0) := mt_cd_of (q := (14, .aload_n 0, 1)) mq_52 ci_52 (List.mem_of_getElem? (i := 8) rfl)
theorem cd_52_15 : mt_cd 52 15 = some (.getfield 44) := mt_cd_of (q := (15, .getfield 44, 3)) mq_52 ci_52 (List.mem_of_getElem? (i := 9) rfl)
theorem cd_52_18 : mt_cd 52 18 = some (.aload_n 0) := mt_cd_of (q := (18, .aload_n 0, 1)) mq_52 ci_52 (List.mem_of_getElem? (i := 10) rfl)
theorem cd_52_19 : mt_cd 52 19 = some (.getfield 51) := mt_cd_of (q := (19, .getfield 51, 3)) mq_52 ci_52 (List.mem_of_getElem? (i := 11) rfl)
theorem cd_52_22 : mt_cd 52 22 = some (.lload_n 1) := mt_cd_of (q := (22, .lload_n 1, 1)) mq_52 ci_52 (List.mem_of_getElem? (i := 12) rfl)
theorem cd_52_23 : mt_cd 52 23 = some (.lastore) := mt_cd_of (q := (23, .lastore, 1)) mq_52 ci_52 (List.mem_of_getElem? (i := 13) rfl)
theorem cd_52_24 : mt_cd 52 24 = some (.aload_n 0) := mt_cd_of (q := (24, .aload_n 0, 1)) mq_52 ci_52 (List.mem_of_getElem? (i := 14) rfl)
theorem cd_52_25 : mt_cd 52 25 = some (.getfield 44) := mt_cd_of (q := (25, .getfield 44, 3)) mq_52 ci_52 (List.mem_of_getElem? (i := 15) rfl)
theorem cd_52_28 : mt_cd 52 28 = some (.aload_n 0) := mt_cd_of (q := (28, .aload_n 0, 1)) mq_52 ci_52 (List.mem_of_getElem? (i := 16) rfl)
theorem cd_52_29 : mt_cd 52 29 = some (.getfield 51) := mt_cd_of (q := (29, .getfield 51, 3)) mq_52 ci_52 (List.mem_of_getElem? (i := 17) rfl)
theorem cd_52_32 : mt_cd 52 32 = some (.iconst 1) := mt_cd_of (q := (32, .iconst 1, 1)) mq_52 ci_52 (List.mem_of_getElem? (i := 18) rfl)
theorem cd_52_33 : mt_cd 52 33 = some (.iadd) := mt_cd_of (q := (33, .iadd, 1)) mq_52 ci_52 (List.mem_of_getElem? (i := 19) rfl)
theorem cd_52_34 : mt_cd 52 34 = some (.lload_n 3) := mt_cd_of (q := (34, .lload_n 3, 1)) mq_52 ci_52 (List.mem_of_getElem? (i := 20) rfl)
theorem cd_52_35 : mt_cd 52 35 = some (.lastore) := mt_cd_of (q := (35, .lastore, 1)) mq_52 ci_52 (List.mem_of_getElem? (i := 21) rfl)
theorem cd_52_36 : mt_cd 52 36 = some (.aload_n 0) := mt_cd_of (q := (36, .aload_n 0, 1)) mq_52 ci_52 (List.mem_of_getElem? (i := 22) rfl)
theorem cd_52_37 : mt_cd 52 37 = some (.dup) := mt_cd_of (q := (37, .dup, 1)) mq_52 ci_52 (List.mem_of_getElem? (i := 23) rfl)
theorem cd_52_38 : mt_cd 52 38 = some (.getfield 51) := mt_cd_of (q := (38, .getfield 51, 3)) mq_52 ci_52 (List.mem_of_getElem? (i := 24) rfl)
theorem cd_52_41 : mt_cd 52 41 = some (.iconst 2) := mt_cd_of (q := (41, .iconst 2, 1)) mq_52 ci_52 (List.mem_of_getElem? (i := 25) rfl)
theorem cd_52_42 : mt_cd 52 42 = some (.iadd) := mt_cd_of (q := (42, .iadd, 1)) mq_52 ci_52 (List.mem_of_getElem? (i := 26) rfl)
theorem cd_52_43 : mt_cd 52 43 = some (.putfield 51) := mt_cd_of (q := (43, .putfield 51, 3)) mq_52 ci_52 (List.mem_of_getElem? (i := 27) rfl)
theorem cd_52_46 : mt_cd 52 46 = some (.iconst 1) := mt_cd_of (q := (46, .iconst 1, 1)) mq_52 ci_52 (List.mem_of_getElem? (i := 28) rfl)
theorem cd_52_47 : mt_cd 52 47 = some (.ireturn) := mt_cd_of (q := (47, .ireturn, 1)) mq_52 ci_52 (List.mem_of_getElem? (i := 29) rfl)
theorem b_52_0 {d : Nat} {Q : (Option Value ⊕ Nat) → mi_H → Prop} (n sl : Nat) (f : Nat → mi_C) {l1 : Nat} {l2 : Int64} {l3 : Int64} {fs4 : List Value} {x7 : Int32} (h5 : f l1 = .inr (2, fs4)) (h6 : l1 < n) (h8 : fs4[12]? = some (.int x7)) (h9 : (x7 + 2) ≤ 4096 → mi_W d 52 14 [some (.ref l1), some (.long l2), none, some (.long l3), none] [] (n, sl, f) Q) (h10 : ¬ ((x7 + 2) ≤ 4096) → mi_W d 52 12 [some (.ref l1), some (.long l2), none, some (.long l3), none] [] (n, sl, f) Q) : mi_W d 52 0 [some (.ref l1), some (.long l2), none, some (.long l3), none] [] (n, sl, f) Q := by
  refine w_aload_n cd_52_0 rfl ?_
  refine w_getfield cd_52_1 (show mt_f 2 51 = some (2, 12) by decide +kernel) h5 h6 h8 ?_
  refine w_iconst (v := 2) cd_52_4 (by decide) ?_
  refine w_iadd cd_52_5 ?_
  refine w_sipush (v := 4096) cd_52_6 (by decide) ?_
  exact w_if_icmple cd_52_9 (by decide) h9 h10
theorem b_52_12 {d : Nat} {Q : (Option Value ⊕ Nat) → mi_H → Prop} (n sl : Nat) (f : Nat → mi_C) {l1 : Nat} {l2 : Int64} {l3 : Int64} (h4 : Q (.inl (some (.int 0))) (n, sl, f)) : mi_W d 52 12 [some (.ref l1), some (.long l2), none, some (.long l3), none] [] (n, sl, f) Q := by
  refine w_iconst (v := 0) cd_52_12 (by decide) ?_
  exact w_ireturn_z cd_52_13 (by decide +kernel) (by decide) h4
theorem b_52_14 {d : Nat} {Q : (Option Value ⊕ Nat) → mi_H → Prop} (n sl : Nat) (f : Nat → mi_C) {l1 : Nat} {l2 : Int64} {l3 : Int64} {fs4 : List Value} {x7 : Nat} {fs9 : List Value} {x12 : Int32} (m14 i14 : Nat) (g14 : Nat → Int64) {fs18 : List Value} {x21 : Nat} {fs23 : List Value} {x26 : Int32} (m28 i28 : Nat) (g28 : Nat → Int64) {fs32 : List Value} {x35 : Int32} {fs37 : List Value} (h5 : f l1 = .inr (2, fs4)) (h6 : l1 < n) (h8 : fs4[10]? = some (.ref x7)) (h10 : f l1 = .inr (2, fs9)) (h11 : l1 < n) (h13 : fs9[12]? = some (.int x12)) (h15 : f x7 = .inl (3, m14, .inr (.inl g14))) (h16 : x7 < n) (h17 : mi_ix x12 m14 i14) (h19 : (va_up f x7 (.inl (3, m14, .inr (.inl (vp_updL g14 i14 l2))))) l1 = .inr (2, fs18)) (h20 : l1 < n) (h22 : fs18[10]? = some (.ref x21)) (h24 : (va_up f x7 (.inl (3, m14, .inr (.inl (vp_updL g14 i14 l2))))) l1 = .inr (2, fs23)) (h25 : l1 < n) (h27 : fs23[12]? = some (.int x26)) (h29 : (va_up f x7 (.inl (3, m14, .inr (.inl (vp_updL g14 i14 l2))))) x21 = .inl (3, m28, .inr (.inl g28))) (h30 : x21 < n) (h31 : mi_ix (x26 + 1) m28 i28) (h33 : (va_up (va_up f x7 (.inl (3, m14, .inr (.inl (vp_updL g14 i14 l2))))) x21 (.inl (3, m28, .inr (.inl (vp_updL g28 i28 l3))))) l1 = .inr (2, fs32)) (h34 : l1 < n) (h36 : fs32[12]? = some (.int x35)) (h38 : (va_up (va_up f x7 (.inl (3, m14, .inr (.inl (vp_updL g14 i14 l2))))) x21 (.inl (3, m28, .inr (.inl (vp_updL g28 i28 l3))))) l1 = .inr (2, fs37)) (h39 : l1 < n) (h40 : 12 < fs37.length) (h41 : Q (.inl (some (.int 1))) (n, sl, (va_up (va_up (va_up f x7 (.inl (3, m14, .inr (.inl (vp_updL g14 i14 l2))))) x21 (.inl (3, m28, .inr (.inl (vp_updL g28 i28 l3))))) l1 (.inr (2, fs37.set 12 (.int (x35 + 2))))))) : mi_W d 52 14 [some (.ref l1), some (.long l2), none, some (.long l3), none] [] (n, sl, f) Q := by
  refine w_aload_n cd_52_14 rfl ?_
  refine w_getfield cd_52_15 (show mt_f 2 44 = some (2, 10) by decide +kernel) h5 h6 h8 ?_
  refine w_aload_n cd_52_18 rfl ?_
  refine w_getfield cd_52_19 (show mt_f 2 51 = some (2, 12) by decide +kernel) h10 h11 h13 ?_
  refine w_lload_n cd_52_22 rfl ?_
  refine w_lastore cd_52_23 h15 h16 h17 ?_
  refine w_aload_n cd_52_24 rfl ?_
  refine w_getfield cd_52_25 (show mt_f 2 44 = some (2, 10) by decide +kernel) h19 h20 h22 ?_
  refine w_aload_n cd_52_28 rfl ?_
  refine w_getfield cd_52_29 (show mt_f 2 51 = some (2, 12) by decide +kernel) h24 h25 h27 ?_
  refine w_iconst (v := 1) cd_52_32 (by decide) ?_
  refine w_iadd cd_52_33 ?_
  refine w_lload_n cd_52_34 rfl ?_
  refine w_lastore cd_52_35 h29 h30 h31 ?_
  refine w_aload_n cd_52_36 rfl ?_
  refine w_dup_r cd_52_37 ?_
  refine w_getfield cd_52_38 (show mt_f 2 51 = some (2, 12) by decide +kernel) h33 h34 h36 ?_
  refine w_iconst (v := 2) cd_52_41 (by decide) ?_
  refine w_iadd cd_52_42 ?_
  refine w_putfield (w := .int (x35 + 2)) cd_52_43 (show mt_f 2 51 = some (2, 12) by decide +kernel) h38 h39 ⟨h40, rfl, Or.inl (by decide)⟩ ?_
  refine w_iconst (v := 1) cd_52_46 (by decide) ?_
  exact w_ireturn_z cd_52_47 (by decide +kernel) (by decide) h41
/-! MarloweHost$Reader.finish()V -/
set_option maxRecDepth 100000 in
theorem mq_53 : mt_q 53 = my_53 := rfl
set_option maxRecDepth 100000 in
theorem ci_53 : mt_inc 0 my_53.cd = true := by decide +kernel
theorem cd_53_0 : mt_cd 53 0 = some (.aload_n 0) := mt_cd_of (q := (0, .aload_n 0, 1)) mq_53 ci_53 (List.mem_of_getElem? (i := 0) rfl)
theorem cd_53_1 : mt_cd 53 1 = some (.aload_n 0) := mt_cd_of (q := (1, .aload_n 0, 1)) mq_53 ci_53 (List.mem_of_getElem? (i := 1) rfl)
theorem cd_53_2 : mt_cd 53 2 = some (.getfield 15) := mt_cd_of (q := (2, .getfield 15, 3)) mq_53 ci_53 (List.mem_of_getElem? (i := 2) rfl)
theorem cd_53_5 : mt_cd 53 5 = some (.getfield 67) := mt_cd_of (q := (5, .getfield 67, 3)) mq_53 ci_53 (List.mem_of_getElem? (i := 3) rfl)
theorem cd_53_8 : mt_cd 53 8 = some (.bipush 39) := mt_cd_of (q := (8, .bipush 39, 2)) mq_53 ci_53 (List.mem_of_getElem? (i := 4) rfl)
theorem cd_53_10 : mt_cd 53 10 = some (.if_icmp .ne 7) := mt_cd_of (q := (10, .if_icmp .ne 7, 3)) mq_53 ci_53 (List.mem_of_getElem? (i := 5) rfl)
theorem cd_53_13 : mt_cd 53 13 = some (.iconst 1) := mt_cd_of (q := (13, .iconst 1, 1)) mq_53 ci_53 (List.mem_of_getElem? (i := 6) rfl)
theorem cd_53_14 : mt_cd 53 14 = some (.goto 4) := mt_cd_of (q := (14, .goto 4, 3)) mq_53 ci_53 (List.mem_of_getElem? (i := 7) rfl)
theorem cd_53_17 : mt_cd 53 17 = some (.iconst 0) := mt_cd_of (q := (17, .iconst 0, 1)) mq_53 ci_53 (List.mem_of_getElem? (i := 8) rfl)
theorem cd_53_18 : mt_cd 53 18 = some (.invokevirtual 70) := mt_cd_of (q := (18, .invokevirtual 70, 3)) mq_53 ci_53 (List.mem_of_getElem? (i := 9) rfl)
theorem cd_53_21 : mt_cd 53 21 = some (.return_) := mt_cd_of (q := (21, .return_, 1)) mq_53 ci_53 (List.mem_of_getElem? (i := 10) rfl)
theorem b_53_0 {d : Nat} {Q : (Option Value ⊕ Nat) → mi_H → Prop} (n sl : Nat) (f : Nat → mi_C) {l1 : Nat} {fs2 : List Value} {x5 : Nat} {fs7 : List Value} {x10 : Int32} (h3 : f l1 = .inr (3, fs2)) (h4 : l1 < n) (h6 : fs2[0]? = some (.ref x5)) (h8 : f x5 = .inr (1, fs7)) (h9 : x5 < n) (h11 : fs7[2]? = some (.int x10)) (h12 : ¬ x10 = 39 → mi_W d 53 17 [some (.ref l1)] [.ref l1] (n, sl, f) Q) (h13 : ¬ (¬ x10 = 39) → mi_W d 53 13 [some (.ref l1)] [.ref l1] (n, sl, f) Q) : mi_W d 53 0 [some (.ref l1)] [] (n, sl, f) Q := by
  refine w_aload_n cd_53_0 rfl ?_
  refine w_aload_n cd_53_1 rfl ?_
  refine w_getfield cd_53_2 (show mt_f 3 15 = some (3, 0) by decide +kernel) h3 h4 h6 ?_
  refine w_getfield cd_53_5 (show mt_f 3 67 = some (1, 2) by decide +kernel) h8 h9 h11 ?_
  refine w_bipush (v := 39) cd_53_8 (by decide) ?_
  exact w_if_icmpne cd_53_10 (by decide) h12 h13
theorem b_53_13 {d : Nat} {Q : (Option Value ⊕ Nat) → mi_H → Prop} (n sl : Nat) (f : Nat → mi_C) {l1 : Nat} {s2 : Nat} (h3 : mi_W d 53 18 [some (.ref l1)] [.int 1, .ref s2] (n, sl, f) Q) : mi_W d 53 13 [some (.ref l1)] [.ref s2] (n, sl, f) Q := by
  refine w_iconst (v := 1) cd_53_13 (by decide) ?_
  exact w_goto cd_53_14 (by decide) h3
theorem b_53_17 {d : Nat} {Q : (Option Value ⊕ Nat) → mi_H → Prop} (n sl : Nat) (f : Nat → mi_C) {l1 : Nat} {s2 : Nat} (h3 : mi_W d 53 18 [some (.ref l1)] [.int 0, .ref s2] (n, sl, f) Q) : mi_W d 53 17 [some (.ref l1)] [.ref s2] (n, sl, f) Q := by
  refine w_iconst (v := 0) cd_53_17 (by decide) ?_
  exact h3
theorem b_53_18 {d : Nat} {Q : (Option Value ⊕ Nat) → mi_H → Prop} (n sl : Nat) (f : Nat → mi_C) {l1 : Nat} {s2 : Int32} {s3 : Nat} {fs4 : List Value} (h5 : f s3 = .inr (3, fs4)) (h6 : s3 < n) (h7 : mi_W d 38 0 (mi_en 2 [.ref s3, .int s2]) [] (n, sl, f) (mi_Kc d 53 18 [some (.ref l1)] [] Q)) : mi_W (d + 1) 53 18 [some (.ref l1)] [.int s2, .ref s3] (n, sl, f) Q := by
  exact w_invokevirtual cd_53_18 (show mt_m 3 70 = some (38, 0) by decide +kernel) (rest := []) rfl (as := [.ref s3, .int s2]) rfl h5 (Or.inl h6) ⟨Nat.le_of_ble_eq_true rfl, Nat.le_of_ble_eq_true rfl, Nat.le_of_ble_eq_true rfl⟩ h7
theorem b_53_21 {d : Nat} {Q : (Option Value ⊕ Nat) → mi_H → Prop} (n sl : Nat) (f : Nat → mi_C) {l1 : Nat} (h2 : Q (.inl none) (n, sl, f)) : mi_W d 53 21 [some (.ref l1)] [] (n, sl, f) Q := by
  exact w_return cd_53_21 (by decide +kernel) h2
/-! MarloweHost$Situation.begin()V -/
set_option maxRecDepth 100000 in
theorem mq_54 : mt_q 54 = my_54 := rfl
set_option maxRecDepth 100000 in
theorem ci_54 : mt_inc 0 my_54.cd = true := by decide +kernel
theorem cd_54_0 : mt_cd 54 0 = some (.aload_n 0) := mt_cd_of (q := (0, .aload_n 0, 1)) mq_54 ci_54 (List.mem_of_getElem? (i := 0) rfl)
theorem cd_54_1 : mt_cd 54 1 = some (.iconst 0) := mt_cd_of (q := (1, .iconst 0, 1)) mq_54 ci_54 (List.mem_of_getElem? (i := 1) rfl)
theorem cd_54_2 : mt_cd 54 2 = some (.putfield 21) := mt_cd_of (q := (2, .putfield 21, 3)) mq_54 ci_54 (List.mem_of_getElem? (i := 2) rfl)
theorem cd_54_5 : mt_cd 54 5 = some (.aload_n 0) := mt_cd_of (q := (5, .aload_n 0, 1)) mq_54 ci_54 (List.mem_of_getElem? (i := 3) rfl)
theorem cd_54_6 : mt_cd 54 6 = some (.lconst 0) := mt_cd_of (q := (6, .lconst 0, 1)) mq_54 ci_54 (List.mem_of_getElem? (i := 4) rfl)
theorem cd_54_7 : mt_cd 54 7 = some (.putfield 25) := mt_cd_of (q := (7, .putfield 25, 3)) mq_54 ci_54 (List.mem_of_getElem? (i := 5) rfl)
theorem cd_54_10 : mt_cd 54 10 = some (.aload_n 0) := mt_cd_of (q := (10, .aload_n 0, 1)) mq_54 ci_54 (List.mem_of_getElem? (i := 6) rfl)
theorem cd_54_11 : mt_cd 54 11 = some (.getfield 9) := mt_cd_of (q := (11, .getfield 9, 3)) mq_54 ci_54 (List.mem_of_getElem? (i := 7) rfl)
theorem cd_54_14 : mt_cd 54 14 = some (.lconst 0) := mt_cd_of (q := (14, .lconst 0, 1)) mq_54 ci_54 (List.mem_of_getElem? (i := 8) rfl)
theorem cd_54_15 : mt_cd 54 15 = some (.invokestatic 29) := mt_cd_of (q := (15, .invokestatic 29, 3)) mq_54 ci_54 (List.mem_of_getElem? (i := 9) rfl)
theorem cd_54_18 : mt_cd 54 18 = some (.aload_n 0) := mt_cd_of (q := (18, .aload_n 0, 1)) mq_54 ci_54 (List.mem_of_getElem? (i := 10) rfl)
theorem cd_54_19 : mt_cd 54 19 = some (.getfield 15) := mt_cd_of (q := (19, .getfield 15, 3)) mq_54 ci_54 (List.mem_of_getElem? (i := 11) rfl)
theorem cd_54_22 : mt_cd 54 22 = some (.lconst 0) := mt_cd_of (q := (22, .lconst 0, 1)) mq_54 ci_54 (List.mem_of_getElem? (i := 12) rfl)
theorem cd_54_23 : mt_cd 54 23 = some (.invokestatic 29) := mt_cd_of (q := (23, .invokestatic 29, 3)) mq_54 ci_54 (List.mem_of_getElem? (i := 13) rfl)
theorem cd_54_26 : mt_cd 54 26 = some (.aload_n 0) := mt_cd_of (q := (26, .aload_n 0, 1)) mq_54 ci_54 (List.mem_of_getElem? (i := 14) rfl)
theorem cd_54_27 : mt_cd 54 27 = some (.getfield 18) := mt_cd_of (q := (27, .getfield 18, 3)) mq_54 ci_54 (List.mem_of_getElem? (i := 15) rfl)
theorem cd_54_30 : mt_cd 54 30 = some (.lconst 0) := mt_cd_of (q := (30, .lconst 0, 1)) mq_54 ci_54 (List.mem_of_getElem? (i := 16) rfl)
theorem cd_54_31 : mt_cd 54 31 = some (.invokestatic 29) := mt_cd_of (q := (31, .invokestatic 29, 3)) mq_54 ci_54 (List.mem_of_getElem? (i := 17) rfl)
theorem cd_54_34 : mt_cd 54 34 = some (.aload_n 0) := mt_cd_of (q := (34, .aload_n 0, 1)) mq_54 ci_54 (List.mem_of_getElem? (i := 18) rfl)
theorem cd_54_35 : mt_cd 54 35 = some (.iconst 0) := mt_cd_of (q := (35, .iconst 0, 1)) mq_54 ci_54 (List.mem_of_getElem? (i := 19) rfl)
theorem cd_54_36 : mt_cd 54 36 = some (.putfield 35) := mt_cd_of (q := (36, .putfield 35, 3)) mq_54 ci_54 (List.mem_of_getElem? (i := 20) rfl)
theorem cd_54_39 : mt_cd 54 39 = some (.aload_n 0) := mt_cd_of (q := (39, .aload_n 0, 1)) mq_54 ci_54 (List.mem_of_getElem? (i := 21) rfl)
theorem cd_54_40 : mt_cd 54 40 = some (.iconst 0) := mt_cd_of (q := (40, .iconst 0, 1)) mq_54 ci_54 (List.mem_of_getElem? (i := 22) rfl)
theorem cd_54_41 : mt_cd 54 41 = some (.putfield 38) := mt_cd_of (q := (41, .putfield 38, 3)) mq_54 ci_54 (List.mem_of_getElem? (i := 23) rfl)
theorem cd_54_44 : mt_cd 54 44 = some (.return_) := mt_cd_of (q := (44, .return_, 1)) mq_54 ci_54 (List.mem_of_getElem? (i := 24) rfl)
theorem b_54_0 {d : Nat} {Q : (Option Value ⊕ Nat) → mi_H → Prop} (n sl : Nat) (f : Nat → mi_C) {l1 : Nat} {fs2 : List Value} {fs6 : List Value} {fs10 : List Value} {x13 : Nat} (h3 : f l1 = .inr (9, fs2)) (h4 : l1 < n) (h5 : 0 < fs2.length) (h7 : (va_up f l1 (.inr (9, fs2.set 0 (.int 0)))) l1 = .inr (9, fs6)) (h8 : l1 < n) (h9 : 1 < fs6.length) (h11 : (va_up (va_up f l1 (.inr (9, fs2.set 0 (.int 0)))) l1 (.inr (9, fs6.set 1 (.long 0)))) l1 = .inr (9, fs10)) (h12 : l1 < n) (h14 : fs10[2]? = some (.ref x13)) (h15 : mi_W d 55 0 (mi_en 5 [.ref x13, .long 0]) [] (n, sl, (va_up (va_up f l1 (.inr (9, fs2.set 0 (.int 0)))) l1 (.inr (9, fs6.set 1 (.long 0))))) (mi_Kc d 54 15 [some (.ref l1)] [] Q)) : mi_W (d + 1) 54 0 [some (.ref l1)] [] (n, sl, f) Q := by
  refine w_aload_n cd_54_0 rfl ?_
  refine w_iconst (v := 0) cd_54_1 (by decide) ?_
  refine w_putfield (w := .int 0) cd_54_2 (show mt_f 9 21 = some (9, 0) by decide +kernel) h3 h4 ⟨h5, rfl, Or.inl (by decide)⟩ ?_
  refine w_aload_n cd_54_5 rfl ?_
  refine w_lconst (lv := 0) cd_54_6 (by decide) ?_
  refine w_putfield (w := .long 0) cd_54_7 (show mt_f 9 25 = some (9, 1) by decide +kernel) h7 h8 ⟨h9, rfl, Or.inl (by decide)⟩ ?_
  refine w_aload_n cd_54_10 rfl ?_
  refine w_getfield cd_54_11 (show mt_f 9 9 = some (9, 2) by decide +kernel) h11 h12 h14 ?_
  refine w_lconst (lv := 0) cd_54_14 (by decide) ?_
  exact w_invokestatic cd_54_15 (show mt_m 9 29 = some (55, 4) by decide +kernel) (by decide) (rest := []) rfl (as := [.ref x13, .long 0]) rfl ⟨Nat.le_of_ble_eq_true rfl, Nat.le_of_ble_eq_true rfl, Nat.le_of_ble_eq_true rfl⟩ h15
theorem b_54_18 {d : Nat} {Q : (Option Value ⊕ Nat) → mi_H → Prop} (n sl : Nat) (f : Nat → mi_C) {l1 : Nat} {fs2 : List Value} {x5 : Nat} (h3 : f l1 = .inr (9, fs2)) (h4 : l1 < n) (h6 : fs2[3]? = some (.ref x5)) (h7 : mi_W d 55 0 (mi_en 5 [.ref x5, .long 0]) [] (n, sl, f) (mi_Kc d 54 23 [some (.ref l1)] [] Q)) : mi_W (d + 1) 54 18 [some (.ref l1)] [] (n, sl, f) Q := by
  refine w_aload_n cd_54_18 rfl ?_
  refine w_getfield cd_54_19 (show mt_f 9 15 = some (9, 3) by decide +kernel) h3 h4 h6 ?_
  refine w_lconst (lv := 0) cd_54_22 (by decide) ?_
  exact w_invokestatic cd_54_23 (show mt_m 9 29 = some (55, 4) by decide +kernel) (by decide) (rest := []) rfl (as := [.ref x5, .long 0]) rfl ⟨Nat.le_of_ble_eq_true rfl, Nat.le_of_ble_eq_true rfl, Nat.le_of_ble_eq_true rfl⟩ h7
theorem b_54_26 {d : Nat} {Q : (Option Value ⊕ Nat) → mi_H → Prop} (n sl : Nat) (f : Nat → mi_C) {l1 : Nat} {fs2 : List Value} {x5 : Nat} (h3 : f l1 = .inr (9, fs2)) (h4 : l1 < n) (h6 : fs2[4]? = some (.ref x5)) (h7 : mi_W d 55 0 (mi_en 5 [.ref x5, .long 0]) [] (n, sl, f) (mi_Kc d 54 31 [some (.ref l1)] [] Q)) : mi_W (d + 1) 54 26 [some (.ref l1)] [] (n, sl, f) Q := by
  refine w_aload_n cd_54_26 rfl ?_
  refine w_getfield cd_54_27 (show mt_f 9 18 = some (9, 4) by decide +kernel) h3 h4 h6 ?_
  refine w_lconst (lv := 0) cd_54_30 (by decide) ?_
  exact w_invokestatic cd_54_31 (show mt_m 9 29 = some (55, 4) by decide +kernel) (by decide) (rest := []) rfl (as := [.ref x5, .long 0]) rfl ⟨Nat.le_of_ble_eq_true rfl, Nat.le_of_ble_eq_true rfl, Nat.le_of_ble_eq_true rfl⟩ h7
theorem b_54_34 {d : Nat} {Q : (Option Value ⊕ Nat) → mi_H → Prop} (n sl : Nat) (f : Nat → mi_C) {l1 : Nat} {fs2 : List Value} {fs6 : List Value} (h3 : f l1 = .inr (9, fs2)) (h4 : l1 < n) (h5 : 5 < fs2.length) (h7 : (va_up f l1 (.inr (9, fs2.set 5 (.int 0)))) l1 = .inr (9, fs6)) (h8 : l1 < n) (h9 : 6 < fs6.length) (h10 : Q (.inl none) (n, sl, (va_up (va_up f l1 (.inr (9, fs2.set 5 (.int 0)))) l1 (.inr (9, fs6.set 6 (.int 0)))))) : mi_W d 54 34 [some (.ref l1)] [] (n, sl, f) Q := by
  refine w_aload_n cd_54_34 rfl ?_
  refine w_iconst (v := 0) cd_54_35 (by decide) ?_
  refine w_putfield (w := .int 0) cd_54_36 (show mt_f 9 35 = some (9, 5) by decide +kernel) h3 h4 ⟨h5, rfl, Or.inl (by decide)⟩ ?_
  refine w_aload_n cd_54_39 rfl ?_
  refine w_iconst (v := 0) cd_54_40 (by decide) ?_
  refine w_putfield (w := .int 0) cd_54_41 (show mt_f 9 38 = some (9, 6) by decide +kernel) h7 h8 ⟨h9, rfl, Or.inl (by decide)⟩ ?_
  exact w_return cd_54_44 (by decide +kernel) h10
/-! MarloweHostLaw.wallet(LMarloweHost;IIJ[J)I -/
set_option maxRecDepth 100000 in
theorem mq_56 : mt_q 56 = my_56 := rfl
set_option maxRecDepth 100000 in
theorem ci_56 : mt_inc 0 my_56.cd = true := by decide +kernel
theorem cd_56_0 : mt_cd 56 0 = some (.aload 5) := mt_cd_of (q := (0, .aload 5, 2)) mq_56 ci_56 (List.mem_of_getElem? (i := 0) rfl)
theorem cd_56_2 : mt_cd 56 2 = some (.iconst 0) := mt_cd_of (q := (2, .iconst 0, 1)) mq_56 ci_56 (List.mem_of_getElem? (i := 1) rfl)
theorem cd_56_3 : mt_cd 56 3 = some (.aload_n 0) := mt_cd_of (q := (3, .aload_n 0, 1)) mq_56 ci_56 (List.mem_of_getElem? (i := 2) rfl)
theorem cd_56_4 : mt_cd 56 4 = some (.iload_n 1) := mt_cd_of (q := (4, .iload_n 1, 1)) mq_56 ci_56 (List.mem_of_getElem? (i := 3) rfl)
theorem cd_56_5 : mt_cd 56 5 = some (.iload_n 2) := mt_cd_of (q := (5, .iload_n 2, 1)) mq_56 ci_56 (List.mem_of_getElem? (i := 4) rfl)
theorem cd_56_6 : mt_cd 56 6 = some (.lload_n 3) := mt_cd_of (q := (6, .lload_n 3, 1)) mq_56 ci_56 (List.mem_of_getElem? (i := 5) rfl)
theorem cd_56_7 : mt_cd 56 7 = some (.invokevirtual 21) := mt_cd_of (q := (7, .invokevirtual 21, 3)) mq_56 ci_56 (List.mem_of_getElem? (i := 6) rfl)
theorem cd_56_10 : mt_cd 56 10 = some (.lastore) := mt_cd_of (q := (10, .lastore, 1)) mq_56 ci_56 (List.mem_of_getElem? (i := 7) rfl)
theorem cd_56_11 : mt_cd 56 11 = some (.goto 7) := mt_cd_of (q := (11, .goto 7, 3)) mq_56 ci_56 (List.mem_of_getElem? (i := 8) rfl)
theorem cd_56_14 : mt_cd 56 14 = some (.astore 6) := mt_cd_of (q := (14, .astore 6, 2)) mq_56 ci_56 (List.mem_of_getElem? (i := 9) rfl)
theorem cd_56_16 : mt_cd 56 16 = some (.iconst 1) := mt_cd_of (q := (16, .iconst 1, 1)) mq_56 ci_56 (List.mem_of_getElem? (i := 10) rfl)
theorem cd_56_17 : mt_cd 56 17 = some (.ireturn) := mt_cd_of (q := (17, .ireturn, 1)) mq_56 ci_56 (List.mem_of_getElem? (i := 11) rfl)
theorem cd_56_18 : mt_cd 56 18 = some (.iconst 0) := mt_cd_of (q := (18, .iconst 0, 1)) mq_56 ci_56 (List.mem_of_getElem? (i := 12) rfl)
theorem cd_56_19 : mt_cd 56 19 = some (.ireturn) := mt_cd_of (q := (19, .ireturn, 1)) mq_56 ci_56 (List.mem_of_getElem? (i := 13) rfl)
theorem b_56_0 {d : Nat} {Q : (Option Value ⊕ Nat) → mi_H → Prop} (n sl : Nat) (f : Nat → mi_C) {l1 : Nat} {l2 : Int32} {l3 : Int32} {l4 : Int64} {l5 : Nat} {o6 : Option Value} {fs7 : List Value} (h8 : f l1 = .inr (0, fs7)) (h9 : l1 < n) (h10 : mi_W d 57 0 (mi_en 8 [.ref l1, .int l2, .int l3, .long l4]) [] (n, sl, f) (mi_Kc d 56 7 [some (.ref l1), some (.int l2), some (.int l3), some (.long l4), none, some (.ref l5), o6] [.int 0, .ref l5] Q)) : mi_W (d + 1) 56 0 [some (.ref l1), some (.int l2), some (.int l3), some (.long l4), none, some (.ref l5), o6] [] (n, sl, f) Q := by
  refine w_aload cd_56_0 rfl ?_
  refine w_iconst (v := 0) cd_56_2 (by decide) ?_
  refine w_aload_n cd_56_3 rfl ?_
  refine w_iload_n cd_56_4 rfl ?_
  refine w_iload_n cd_56_5 rfl ?_
  refine w_lload_n cd_56_6 rfl ?_
  exact w_invokevirtual cd_56_7 (show mt_m 18 21 = some (57, 0) by decide +kernel) (rest := [.int 0, .ref l5]) rfl (as := [.ref l1, .int l2, .int l3, .long l4]) rfl h8 (Or.inl h9) ⟨Nat.le_of_ble_eq_true rfl, Nat.le_of_ble_eq_true rfl, Nat.le_of_ble_eq_true rfl⟩ h10
theorem b_56_10 {d : Nat} {Q : (Option Value ⊕ Nat) → mi_H → Prop} (n sl : Nat) (f : Nat → mi_C) {l1 : Nat} {l2 : Int32} {l3 : Int32} {l4 : Int64} {l5 : Nat} {o6 : Option Value} {s7 : Int64} {s8 : Int32} {s9 : Nat} (m10 i10 : Nat) (g10 : Nat → Int64) (h11 : f s9 = .inl (3, m10, .inr (.inl g10))) (h12 : s9 < n) (h13 : mi_ix s8 m10 i10) (h14 : mi_W d 56 18 [some (.ref l1), some (.int l2), some (.int l3), some (.long l4), none, some (.ref l5), o6] [] (n, sl, (va_up f s9 (.inl (3, m10, .inr (.inl (vp_updL g10 i10 s7)))))) Q) : mi_W d 56 10 [some (.ref l1), some (.int l2), some (.int l3), some (.long l4), none, some (.ref l5), o6] [.long s7, .int s8, .ref s9] (n, sl, f) Q := by
  refine w_lastore cd_56_10 h11 h12 h13 ?_
  exact w_goto cd_56_11 (by decide) h14
theorem b_56_14 {d : Nat} {Q : (Option Value ⊕ Nat) → mi_H → Prop} (n sl : Nat) (f : Nat → mi_C) {l1 : Nat} {l2 : Int32} {l3 : Int32} {l4 : Int64} {l5 : Nat} {o6 : Option Value} {s7 : Nat} (h8 : Q (.inl (some (.int 1))) (n, sl, f)) : mi_W d 56 14 [some (.ref l1), some (.int l2), some (.int l3), some (.long l4), none, some (.ref l5), o6] [.ref s7] (n, sl, f) Q := by
  refine w_astore (ls' := [some (.ref l1), some (.int l2), some (.int l3), some (.long l4), none, some (.ref l5), some (.ref s7)]) cd_56_14 (Nat.le_of_ble_eq_true rfl) rfl ?_
  refine w_iconst (v := 1) cd_56_16 (by decide) ?_
  exact w_ireturn_i cd_56_17 (by decide +kernel) h8
theorem b_56_18 {d : Nat} {Q : (Option Value ⊕ Nat) → mi_H → Prop} (n sl : Nat) (f : Nat → mi_C) {l1 : Nat} {l2 : Int32} {l3 : Int32} {l4 : Int64} {l5 : Nat} {o6 : Option Value} (h7 : Q (.inl (some (.int 0))) (n, sl, f)) : mi_W d 56 18 [some (.ref l1), some (.int l2), some (.int l3), some (.long l4), none, some (.ref l5), o6] [] (n, sl, f) Q := by
  refine w_iconst (v := 0) cd_56_18 (by decide) ?_
  exact w_ireturn_i cd_56_19 (by decide +kernel) h7
/-! MarloweHost.wallet(IIJ)J -/
set_option maxRecDepth 100000 in
theorem mq_57 : mt_q 57 = my_57 := rfl
set_option maxRecDepth 100000 in
theorem ci_57 : mt_inc 0 my_57.cd = true := by decide +kernel
theorem cd_57_0 : mt_cd 57 0 = some (.iload_n 1) := mt_cd_of (q := (0, .iload_n 1, 1)) mq_57 ci_57 (List.mem_of_getElem? (i := 0) rfl)
theorem cd_57_1 : mt_cd 57 1 = some (.invokestatic 114) := mt_cd_of (q := (1, .invokestatic 114, 3)) mq_57 ci_57 (List.mem_of_getElem? (i := 1) rfl)
theorem cd_57_4 : mt_cd 57 4 = some (.ifCond .eq 24) := mt_cd_of (q := (4, .ifCond .eq 24, 3)) mq_57 ci_57 (List.mem_of_getElem? (i := 2) rfl)
theorem cd_57_7 : mt_cd 57 7 = some (.iload_n 2) := mt_cd_of (q := (7, .iload_n 2, 1)) mq_57 ci_57 (List.mem_of_getElem? (i := 3) rfl)
theorem cd_57_8 : mt_cd 57 8 = some (.invokestatic 118) := mt_cd_of (q := (8, .invokestatic 118, 3)) mq_57 ci_57 (List.mem_of_getElem? (i := 4) rfl)
theorem cd_57_11 : mt_cd 57 11 = some (.ifCond .eq 17) := mt_cd_of (q := (11, .ifCond .eq 17, 3)) mq_57 ci_57 (List.mem_of_getElem? (i := 5) rfl)
theorem cd_57_14 : mt_cd 57 14 = some (.lload_n 3) := mt_cd_of (q := (14, .lload_n 3, 1)) mq_57 ci_57 (List.mem_of_getElem? (i := 6) rfl)
theorem cd_57_15 : mt_cd 57 15 = some (.lconst 0) := mt_cd_of (q := (15, .lconst 0, 1)) mq_57 ci_57 (List.mem_of_getElem? (i := 7) rfl)
theorem cd_57_16 : mt_cd 57 16 = some (.lcmp) := mt_cd_of (q := (16, .lcmp, 1)) mq_57 ci_57 (List.mem_of_getElem? (i := 8) rfl)
theorem cd_57_17 : mt_cd 57 17 = some (.ifCond .lt 11) := mt_cd_of (q := (17, .ifCond .lt 11, 3)) mq_57 ci_57 (List.mem_of_getElem? (i := 9) rfl)
theorem cd_57_20 : mt_cd 57 20 = some (.lload_n 3) := mt_cd_of (q := (20, .lload_n 3, 1)) mq_57 ci_57 (List.mem_of_getElem? (i := 10) rfl)
theorem cd_57_21 : mt_cd 57 21 = some (.ldc2_w 121) := mt_cd_of (q := (21, .ldc2_w 121, 3)) mq_57 ci_57 (List.mem_of_getElem? (i := 11) rfl)
theorem cd_57_24 : mt_cd 57 24 = some (.lcmp) := mt_cd_of (q := (24, .lcmp, 1)) mq_57 ci_57 (List.mem_of_getElem? (i := 12) rfl)
theorem cd_57_25 : mt_cd 57 25 = some (.ifCond .le 13) := mt_cd_of (q := (25, .ifCond .le 13, 3)) mq_57 ci_57 (List.mem_of_getElem? (i := 13) rfl)
theorem cd_57_28 : mt_cd 57 28 = some (.new 123) := mt_cd_of (q := (28, .new 123, 3)) mq_57 ci_57 (List.mem_of_getElem? (i := 14) rfl)
theorem cd_57_31 : mt_cd 57 31 = some (.dup) := mt_cd_of (q := (31, .dup, 1)) mq_57 ci_57 (List.mem_of_getElem? (i := 15) rfl)
theorem cd_57_32 : mt_cd 57 32 = some (.ldc 125) := mt_cd_of (q := (32, .ldc 125, 2)) mq_57 ci_57 (List.mem_of_getElem? (i := 16) rfl)
theorem cd_57_34 : mt_cd 57 34 = some (.invokespecial 127) := mt_cd_of (q := (34, .invokespecial 127, 3)) mq_57 ci_57 (List.mem_of_getElem? (i := 17) rfl)
theorem cd_57_37 : mt_cd 57 37 = some (.athrow) := mt_cd_of (q := (37, .athrow, 1)) mq_57 ci_57 (List.mem_of_getElem? (i := 18) rfl)
theorem cd_57_38 : mt_cd 57 38 = some (.iload_n 1) := mt_cd_of (q := (38, .iload_n 1, 1)) mq_57 ci_57 (List.mem_of_getElem? (i := 19) rfl)
theorem cd_57_39 : mt_cd 57 39 = some (.iconst 4) := mt_cd_of (q := (39, .iconst 4, 1)) mq_57 ci_57 (List.mem_of_getElem? (i := 20) rfl)
theorem cd_57_40 : mt_cd 57 40 = some (.imul) := mt_cd_of (q := (40, .imul, 1)) mq_57 ci_57 (List.mem_of_getElem? (i := 21) rfl)
theorem cd_57_41 : mt_cd 57 41 = some (.iload_n 2) := mt_cd_of (q := (41, .iload_n 2, 1)) mq_57 ci_57 (List.mem_of_getElem? (i := 22) rfl)
theorem cd_57_42 : mt_cd 57 42 = some (.iadd) := mt_cd_of (q := (42, .iadd, 1)) mq_57 ci_57 (List.mem_of_getElem? (i := 23) rfl)
theorem cd_57_43 : mt_cd 57 43 = some (.istore 5) := mt_cd_of (q := (43, .istore 5, 2)) mq_57 ci_57 (List.mem_of_getElem? (i := 24) rfl)
theorem cd_57_45 : mt_cd 57 45 = some (.aload_n 0) := mt_cd_of (q := (45, .aload_n 0, 1)) mq_57 ci_57 (List.mem_of_getElem? (i := 25) rfl)
theorem cd_57_46 : mt_cd 57 46 = some (.getfield 35) := mt_cd_of (q := (46, .getfield 35, 3)) mq_57 ci_57 (List.mem_of_getElem? (i := 26) rfl)
theorem cd_57_49 : mt_cd 57 49 = some (.getfield 128) := mt_cd_of (q := (49, .getfield 128, 3)) mq_57 ci_57 (List.mem_of_getElem? (i := 27) rfl)
theorem cd_57_52 : mt_cd 57 52 = some (.iload 5) := mt_cd_of (q := (52, .iload 5, 2)) mq_57 ci_57 (List.mem_of_getElem? (i := 28) rfl)
theorem cd_57_54 : mt_cd 57 54 = some (.laload) := mt_cd_of (q := (54, .laload, 1)) mq_57 ci_57 (List.mem_of_getElem? (i := 29) rfl)
theorem cd_57_55 : mt_cd 57 55 = some (.lstore 6) := mt_cd_of (q := (55, .lstore 6, 2)) mq_57 ci_57 (List.mem_of_getElem? (i := 30) rfl)
theorem cd_57_57 : mt_cd 57 57 = some (.aload_n 0) := mt_cd_of (q := (57, .aload_n 0, 1)) mq_57 ci_57 (List.mem_of_getElem? (i := 31) rfl)
theorem cd_57_58 : mt_cd 57 58 = some (.getfield 35) := mt_cd_of (q := (58, .getfield 35, 3)) mq_57 ci_57 (List.mem_of_getElem? (i := 32) rfl)
theorem cd_57_61 : mt_cd 57 61 = some (.getfield 128) := mt_cd_of (q := (61, .getfield 128, 3)) mq_57 ci_57 (List.mem_of_getElem? (i := 33) rfl)
theorem cd_57_64 : mt_cd 57 64 = some (.iload 5) := mt_cd_of (q := (64, .iload 5, 2)) mq_57 ci_57 (List.mem_of_getElem? (i := 34) rfl)
theorem cd_57_66 : mt_cd 57 66 = some (.lload_n 3) := mt_cd_of (q := (66, .lload_n 3, 1)) mq_57 ci_57 (List.mem_of_getElem? (i := 35) rfl)
theorem cd_57_67 : mt_cd 57 67 = some (.lastore) := mt_cd_of (q := (67, .lastore, 1)) mq_57 ci_57 (List.mem_of_getElem? (i := 36) rfl)
theorem cd_57_68 : mt_cd 57 68 = some (.lload 6) := mt_cd_of (q := (68, .lload 6, 2)) mq_57 ci_57 (List.mem_of_getElem? (i := 37) rfl)
theorem cd_57_70 : mt_cd 57 70 = some (.lreturn) := mt_cd_of (q := (70, .lreturn, 1)) mq_57 ci_57 (List.mem_of_getElem? (i := 38) rfl)
theorem b_57_0 {d : Nat} {Q : (Option Value ⊕ Nat) → mi_H → Prop} (n sl : Nat) (f : Nat → mi_C) {l1 : Nat} {l2 : Int32} {l3 : Int32} {l4 : Int64} {o5 : Option Value} {o6 : Option Value} {o7 : Option Value} (h8 : mi_W d 58 0 (mi_en 1 [.int l2]) [] (n, sl, f) (mi_Kc d 57 1 [some (.ref l1), some (.int l2), some (.int l3), some (.long l4), none, o5, o6, o7] [] Q)) : mi_W (d + 1) 57 0 [some (.ref l1), some (.int l2), some (.int l3), some (.long l4), none, o5, o6, o7] [] (n, sl, f) Q := by
  refine w_iload_n cd_57_0 rfl ?_
  exact w_invokestatic cd_57_1 (show mt_m 0 114 = some (58, 4) by decide +kernel) (by decide) (rest := []) rfl (as := [.int l2]) rfl ⟨Nat.le_of_ble_eq_true rfl, Nat.le_of_ble_eq_true rfl, Nat.le_of_ble_eq_true rfl⟩ h8
theorem b_57_4 {d : Nat} {Q : (Option Value ⊕ Nat) → mi_H → Prop} (n sl : Nat) (f : Nat → mi_C) {l1 : Nat} {l2 : Int32} {l3 : Int32} {l4 : Int64} {o5 : Option Value} {o6 : Option Value} {o7 : Option Value} {s8 : Int32} (h9 : s8 = (0 : Int32) → mi_W d 57 28 [some (.ref l1), some (.int l2), some (.int l3), some (.long l4), none, o5, o6, o7] [] (n, sl, f) Q) (h10 : ¬ (s8 = (0 : Int32)) → mi_W d 57 7 [some (.ref l1), some (.int l2), some (.int l3), some (.long l4), none, o5, o6, o7] [] (n, sl, f) Q) : mi_W d 57 4 [some (.ref l1), some (.int l2), some (.int l3), some (.long l4), none, o5, o6, o7] [.int s8] (n, sl, f) Q := by
  exact w_ifeq cd_57_4 (by decide) h9 h10
theorem b_57_7 {d : Nat} {Q : (Option Value ⊕ Nat) → mi_H → Prop} (n sl : Nat) (f : Nat → mi_C) {l1 : Nat} {l2 : Int32} {l3 : Int32} {l4 : Int64} {o5 : Option Value} {o6 : Option Value} {o7 : Option Value} (h8 : mi_W d 59 0 (mi_en 1 [.int l3]) [] (n, sl, f) (mi_Kc d 57 8 [some (.ref l1), some (.int l2), some (.int l3), some (.long l4), none, o5, o6, o7] [] Q)) : mi_W (d + 1) 57 7 [some (.ref l1), some (.int l2), some (.int l3), some (.long l4), none, o5, o6, o7] [] (n, sl, f) Q := by
  refine w_iload_n cd_57_7 rfl ?_
  exact w_invokestatic cd_57_8 (show mt_m 0 118 = some (59, 4) by decide +kernel) (by decide) (rest := []) rfl (as := [.int l3]) rfl ⟨Nat.le_of_ble_eq_true rfl, Nat.le_of_ble_eq_true rfl, Nat.le_of_ble_eq_true rfl⟩ h8
theorem b_57_11 {d : Nat} {Q : (Option Value ⊕ Nat) → mi_H → Prop} (n sl : Nat) (f : Nat → mi_C) {l1 : Nat} {l2 : Int32} {l3 : Int32} {l4 : Int64} {o5 : Option Value} {o6 : Option Value} {o7 : Option Value} {s8 : Int32} (h9 : s8 = (0 : Int32) → mi_W d 57 28 [some (.ref l1), some (.int l2), some (.int l3), some (.long l4), none, o5, o6, o7] [] (n, sl, f) Q) (h10 : ¬ (s8 = (0 : Int32)) → mi_W d 57 14 [some (.ref l1), some (.int l2), some (.int l3), some (.long l4), none, o5, o6, o7] [] (n, sl, f) Q) : mi_W d 57 11 [some (.ref l1), some (.int l2), some (.int l3), some (.long l4), none, o5, o6, o7] [.int s8] (n, sl, f) Q := by
  exact w_ifeq cd_57_11 (by decide) h9 h10
theorem b_57_14 {d : Nat} {Q : (Option Value ⊕ Nat) → mi_H → Prop} (n sl : Nat) (f : Nat → mi_C) {l1 : Nat} {l2 : Int32} {l3 : Int32} {l4 : Int64} {o5 : Option Value} {o6 : Option Value} {o7 : Option Value} (h8 : (lg_cmp l4 0) < (0 : Int32) → mi_W d 57 28 [some (.ref l1), some (.int l2), some (.int l3), some (.long l4), none, o5, o6, o7] [] (n, sl, f) Q) (h9 : ¬ ((lg_cmp l4 0) < (0 : Int32)) → mi_W d 57 20 [some (.ref l1), some (.int l2), some (.int l3), some (.long l4), none, o5, o6, o7] [] (n, sl, f) Q) : mi_W d 57 14 [some (.ref l1), some (.int l2), some (.int l3), some (.long l4), none, o5, o6, o7] [] (n, sl, f) Q := by
  refine w_lload_n cd_57_14 rfl ?_
  refine w_lconst (lv := 0) cd_57_15 (by decide) ?_
  refine w_lcmp cd_57_16 ?_
  exact w_iflt cd_57_17 (by decide) h8 h9
theorem b_57_20 {d : Nat} {Q : (Option Value ⊕ Nat) → mi_H → Prop} (n sl : Nat) (f : Nat → mi_C) {l1 : Nat} {l2 : Int32} {l3 : Int32} {l4 : Int64} {o5 : Option Value} {o6 : Option Value} {o7 : Option Value} (h8 : (lg_cmp l4 2305843009213693952) ≤ (0 : Int32) → mi_W d 57 38 [some (.ref l1), some (.int l2), some (.int l3), some (.long l4), none, o5, o6, o7] [] (n, sl, f) Q) (h9 : ¬ ((lg_cmp l4 2305843009213693952) ≤ (0 : Int32)) → mi_W d 57 28 [some (.ref l1), some (.int l2), some (.int l3), some (.long l4), none, o5, o6, o7] [] (n, sl, f) Q) : mi_W d 57 20 [some (.ref l1), some (.int l2), some (.int l3), some (.long l4), none, o5, o6, o7] [] (n, sl, f) Q := by
  refine w_lload_n cd_57_20 rfl ?_
  refine w_ldc2_w (lv := 2305843009213693952) cd_57_21 (by decide +kernel) ?_
  refine w_lcmp cd_57_24 ?_
  exact w_ifle cd_57_25 (by decide) h8 h9
theorem b_57_28 {d : Nat} {Q : (Option Value ⊕ Nat) → mi_H → Prop} (n sl : Nat) (f : Nat → mi_C) {l1 : Nat} {l2 : Int32} {l3 : Int32} {l4 : Int64} {o5 : Option Value} {o6 : Option Value} {o7 : Option Value} {h' : mi_H} (h8 : mi_t 57 28 (.new 123) [] (n, sl, f) = some h') (h9 : Q (.inr n) h') : mi_W d 57 28 [some (.ref l1), some (.int l2), some (.int l3), some (.long l4), none, o5, o6, o7] [] (n, sl, f) Q := by
  exact w_throw cd_57_28 (show mt_c 0 123 = some 15 by decide +kernel) (by decide) h8 h9
theorem b_57_38 {d : Nat} {Q : (Option Value ⊕ Nat) → mi_H → Prop} (n sl : Nat) (f : Nat → mi_C) {l1 : Nat} {l2 : Int32} {l3 : Int32} {l4 : Int64} {o5 : Option Value} {o6 : Option Value} {o7 : Option Value} {fs8 : List Value} {x11 : Nat} {fs13 : List Value} {x16 : Nat} (m18 i18 : Nat) (g18 : Nat → Int64) {fs22 : List Value} {x25 : Nat} {fs27 : List Value} {x30 : Nat} (m32 i32 : Nat) (g32 : Nat → Int64) (h9 : f l1 = .inr (0, fs8)) (h10 : l1 < n) (h12 : fs8[3]? = some (.ref x11)) (h14 : f x11 = .inr (5, fs13)) (h15 : x11 < n) (h17 : fs13[0]? = some (.ref x16)) (h19 : f x16 = .inl (3, m18, .inr (.inl g18))) (h20 : x16 < n) (h21 : mi_ix ((l2 * 4) + l3) m18 i18) (h23 : f l1 = .inr (0, fs22)) (h24 : l1 < n) (h26 : fs22[3]? = some (.ref x25)) (h28 : f x25 = .inr (5, fs27)) (h29 : x25 < n) (h31 : fs27[0]? = some (.ref x30)) (h33 : f x30 = .inl (3, m32, .inr (.inl g32))) (h34 : x30 < n) (h35 : mi_ix ((l2 * 4) + l3) m32 i32) (h36 : Q (.inl (some (.long (g18 i18)))) (n, sl, (va_up f x30 (.inl (3, m32, .inr (.inl (vp_updL g32 i32 l4))))))) : mi_W d 57 38 [some (.ref l1), some (.int l2), some (.int l3), some (.long l4), none, o5, o6, o7] [] (n, sl, f) Q := by
  refine w_iload_n cd_57_38 rfl ?_
  refine w_iconst (v := 4) cd_57_39 (by decide) ?_
  refine w_imul cd_57_40 ?_
  refine w_iload_n cd_57_41 rfl ?_
  refine w_iadd cd_57_42 ?_
  refine w_istore (ls' := [some (.ref l1), some (.int l2), some (.int l3), some (.long l4), none, some (.int ((l2 * 4) + l3)), o6, o7]) cd_57_43 (Nat.le_of_ble_eq_true rfl) rfl ?_
  refine w_aload_n cd_57_45 rfl ?_
  refine w_getfield cd_57_46 (show mt_f 0 35 = some (0, 3) by decide +kernel) h9 h10 h12 ?_
  refine w_getfield cd_57_49 (show mt_f 0 128 = some (5, 0) by decide +kernel) h14 h15 h17 ?_
  refine w_iload cd_57_52 rfl ?_
  refine w_laload cd_57_54 h19 h20 h21 ?_
  refine w_lstore (ls' := [some (.ref l1), some (.int l2), some (.int l3), some (.long l4), none, some (.int ((l2 * 4) + l3)), some (.long (g18 i18)), none]) cd_57_55 (Nat.le_of_ble_eq_true rfl) rfl ?_
  refine w_aload_n cd_57_57 rfl ?_
  refine w_getfield cd_57_58 (show mt_f 0 35 = some (0, 3) by decide +kernel) h23 h24 h26 ?_
  refine w_getfield cd_57_61 (show mt_f 0 128 = some (5, 0) by decide +kernel) h28 h29 h31 ?_
  refine w_iload cd_57_64 rfl ?_
  refine w_lload_n cd_57_66 rfl ?_
  refine w_lastore cd_57_67 h33 h34 h35 ?_
  refine w_lload cd_57_68 rfl ?_
  exact w_lreturn cd_57_70 (by decide +kernel) h36
/-! MarloweHost.isParty(I)Z -/
set_option maxRecDepth 100000 in
theorem mq_58 : mt_q 58 = my_58 := rfl
set_option maxRecDepth 100000 in
theorem ci_58 : mt_inc 0 my_58.cd = true := by decide +kernel
theorem cd_58_0 : mt_cd 58 0 = some (.iload_n 0) := mt_cd_of (q := (0, .iload_n 0, 1)) mq_58 ci_58 (List.mem_of_getElem? (i := 0) rfl)
theorem cd_58_1 : mt_cd 58 1 = some (.ifCond .lt 13) := mt_cd_of (q := (1, .ifCond .lt 13, 3)) mq_58 ci_58 (List.mem_of_getElem? (i := 1) rfl)
theorem cd_58_4 : mt_cd 58 4 = some (.iload_n 0) := mt_cd_of (q := (4, .iload_n 0, 1)) mq_58 ci_58 (List.mem_of_getElem? (i := 2) rfl)
theorem cd_58_5 : mt_cd 58 5 = some (.bipush 8) := mt_cd_of (q := (5, .bipush 8, 2)) mq_58 ci_58 (List.mem_of_getElem? (i := 3) rfl)
theorem cd_58_7 : mt_cd 58 7 = some (.if_icmp .ge 7) := mt_cd_of (q := (7, .if_icmp .ge 7, 3)) mq_58 ci_58 (List.mem_of_getElem? (i := 4) rfl)
theorem cd_58_10 : mt_cd 58 10 = some (.iconst 1) := mt_cd_of (q := (10, .iconst 1, 1)) mq_58 ci_58 (List.mem_of_getElem? (i := 5) rfl)
theorem cd_58_11 : mt_cd 58 11 = some (.goto 4) := mt_cd_of (q := (11, .goto 4, 3)) mq_58 ci_58 (List.mem_of_getElem? (i := 6) rfl)
theorem cd_58_14 : mt_cd 58 14 = some (.iconst 0) := mt_cd_of (q := (14, .iconst 0, 1)) mq_58 ci_58 (List.mem_of_getElem? (i := 7) rfl)
theorem cd_58_15 : mt_cd 58 15 = some (.ireturn) := mt_cd_of (q := (15, .ireturn, 1)) mq_58 ci_58 (List.mem_of_getElem? (i := 8) rfl)
theorem b_58_0 {d : Nat} {Q : (Option Value ⊕ Nat) → mi_H → Prop} (n sl : Nat) (f : Nat → mi_C) {l1 : Int32} (h2 : l1 < (0 : Int32) → mi_W d 58 14 [some (.int l1)] [] (n, sl, f) Q) (h3 : ¬ (l1 < (0 : Int32)) → mi_W d 58 4 [some (.int l1)] [] (n, sl, f) Q) : mi_W d 58 0 [some (.int l1)] [] (n, sl, f) Q := by
  refine w_iload_n cd_58_0 rfl ?_
  exact w_iflt cd_58_1 (by decide) h2 h3
theorem b_58_4 {d : Nat} {Q : (Option Value ⊕ Nat) → mi_H → Prop} (n sl : Nat) (f : Nat → mi_C) {l1 : Int32} (h2 : 8 ≤ l1 → mi_W d 58 14 [some (.int l1)] [] (n, sl, f) Q) (h3 : ¬ (8 ≤ l1) → mi_W d 58 10 [some (.int l1)] [] (n, sl, f) Q) : mi_W d 58 4 [some (.int l1)] [] (n, sl, f) Q := by
  refine w_iload_n cd_58_4 rfl ?_
  refine w_bipush (v := 8) cd_58_5 (by decide) ?_
  exact w_if_icmpge cd_58_7 (by decide) h2 h3
theorem b_58_10 {d : Nat} {Q : (Option Value ⊕ Nat) → mi_H → Prop} (n sl : Nat) (f : Nat → mi_C) {l1 : Int32} (h2 : mi_W d 58 15 [some (.int l1)] [.int 1] (n, sl, f) Q) : mi_W d 58 10 [some (.int l1)] [] (n, sl, f) Q := by
  refine w_iconst (v := 1) cd_58_10 (by decide) ?_
  exact w_goto cd_58_11 (by decide) h2
theorem b_58_14 {d : Nat} {Q : (Option Value ⊕ Nat) → mi_H → Prop} (n sl : Nat) (f : Nat → mi_C) {l1 : Int32} (h2 : mi_W d 58 15 [some (.int l1)] [.int 0] (n, sl, f) Q) : mi_W d 58 14 [some (.int l1)] [] (n, sl, f) Q := by
  refine w_iconst (v := 0) cd_58_14 (by decide) ?_
  exact h2
theorem b_58_15 {d : Nat} {Q : (Option Value ⊕ Nat) → mi_H → Prop} (n sl : Nat) (f : Nat → mi_C) {l1 : Int32} {s2 : Int32} (h3 : s2 = 0 ∨ s2 = 1) (h4 : Q (.inl (some (.int s2))) (n, sl, f)) : mi_W d 58 15 [some (.int l1)] [.int s2] (n, sl, f) Q := by
  exact w_ireturn_z cd_58_15 (by decide +kernel) h3 h4
/-! MarloweHost.isToken(I)Z -/
set_option maxRecDepth 100000 in
theorem mq_59 : mt_q 59 = my_59 := rfl
set_option maxRecDepth 100000 in
theorem ci_59 : mt_inc 0 my_59.cd = true := by decide +kernel
theorem cd_59_0 : mt_cd 59 0 = some (.iload_n 0) := mt_cd_of (q := (0, .iload_n 0, 1)) mq_59 ci_59 (List.mem_of_getElem? (i := 0) rfl)
theorem cd_59_1 : mt_cd 59 1 = some (.ifCond .lt 12) := mt_cd_of (q := (1, .ifCond .lt 12, 3)) mq_59 ci_59 (List.mem_of_getElem? (i := 1) rfl)
theorem cd_59_4 : mt_cd 59 4 = some (.iload_n 0) := mt_cd_of (q := (4, .iload_n 0, 1)) mq_59 ci_59 (List.mem_of_getElem? (i := 2) rfl)
theorem cd_59_5 : mt_cd 59 5 = some (.iconst 4) := mt_cd_of (q := (5, .iconst 4, 1)) mq_59 ci_59 (List.mem_of_getElem? (i := 3) rfl)
theorem cd_59_6 : mt_cd 59 6 = some (.if_icmp .ge 7) := mt_cd_of (q := (6, .if_icmp .ge 7, 3)) mq_59 ci_59 (List.mem_of_getElem? (i := 4) rfl)
theorem cd_59_9 : mt_cd 59 9 = some (.iconst 1) := mt_cd_of (q := (9, .iconst 1, 1)) mq_59 ci_59 (List.mem_of_getElem? (i := 5) rfl)
theorem cd_59_10 : mt_cd 59 10 = some (.goto 4) := mt_cd_of (q := (10, .goto 4, 3)) mq_59 ci_59 (List.mem_of_getElem? (i := 6) rfl)
theorem cd_59_13 : mt_cd 59 13 = some (.iconst 0) := mt_cd_of (q := (13, .iconst 0, 1)) mq_59 ci_59 (List.mem_of_getElem? (i := 7) rfl)
theorem cd_59_14 : mt_cd 59 14 = some (.ireturn) := mt_cd_of (q := (14, .ireturn, 1)) mq_59 ci_59 (List.mem_of_getElem? (i := 8) rfl)
theorem b_59_0 {d : Nat} {Q : (Option Value ⊕ Nat) → mi_H → Prop} (n sl : Nat) (f : Nat → mi_C) {l1 : Int32} (h2 : l1 < (0 : Int32) → mi_W d 59 13 [some (.int l1)] [] (n, sl, f) Q) (h3 : ¬ (l1 < (0 : Int32)) → mi_W d 59 4 [some (.int l1)] [] (n, sl, f) Q) : mi_W d 59 0 [some (.int l1)] [] (n, sl, f) Q := by
  refine w_iload_n cd_59_0 rfl ?_
  exact w_iflt cd_59_1 (by decide) h2 h3
theorem b_59_4 {d : Nat} {Q : (Option Value ⊕ Nat) → mi_H → Prop} (n sl : Nat) (f : Nat → mi_C) {l1 : Int32} (h2 : 4 ≤ l1 → mi_W d 59 13 [some (.int l1)] [] (n, sl, f) Q) (h3 : ¬ (4 ≤ l1) → mi_W d 59 9 [some (.int l1)] [] (n, sl, f) Q) : mi_W d 59 4 [some (.int l1)] [] (n, sl, f) Q := by
  refine w_iload_n cd_59_4 rfl ?_
  refine w_iconst (v := 4) cd_59_5 (by decide) ?_
  exact w_if_icmpge cd_59_6 (by decide) h2 h3
theorem b_59_9 {d : Nat} {Q : (Option Value ⊕ Nat) → mi_H → Prop} (n sl : Nat) (f : Nat → mi_C) {l1 : Int32} (h2 : mi_W d 59 14 [some (.int l1)] [.int 1] (n, sl, f) Q) : mi_W d 59 9 [some (.int l1)] [] (n, sl, f) Q := by
  refine w_iconst (v := 1) cd_59_9 (by decide) ?_
  exact w_goto cd_59_10 (by decide) h2
theorem b_59_13 {d : Nat} {Q : (Option Value ⊕ Nat) → mi_H → Prop} (n sl : Nat) (f : Nat → mi_C) {l1 : Int32} (h2 : mi_W d 59 14 [some (.int l1)] [.int 0] (n, sl, f) Q) : mi_W d 59 13 [some (.int l1)] [] (n, sl, f) Q := by
  refine w_iconst (v := 0) cd_59_13 (by decide) ?_
  exact h2
theorem b_59_14 {d : Nat} {Q : (Option Value ⊕ Nat) → mi_H → Prop} (n sl : Nat) (f : Nat → mi_C) {l1 : Int32} {s2 : Int32} (h3 : s2 = 0 ∨ s2 = 1) (h4 : Q (.inl (some (.int s2))) (n, sl, f)) : mi_W d 59 14 [some (.int l1)] [.int s2] (n, sl, f) Q := by
  exact w_ireturn_z cd_59_14 (by decide +kernel) h3 h4
/-! MarloweHostLaw.deposit(LMarloweHost;IIIJ[J)I -/
set_option maxRecDepth 100000 in
theorem mq_60 : mt_q 60 = my_60 := rfl
set_option maxRecDepth 100000 in
theorem ci_60 : mt_inc 0 my_60.cd = true := by decide +kernel
theorem cd_60_0 : mt_cd 60 0 = some (.aload 6) := mt_cd_of (q := (0, .aload 6, 2)) mq_60 ci_60 (List.mem_of_getElem? (i := 0) rfl)
theorem cd_60_2 : mt_cd 60 2 = some (.iconst 0) := mt_cd_of (q := (2, .iconst 0, 1)) mq_60 ci_60 (List.mem_of_getElem? (i := 1) rfl)
theorem cd_60_3 : mt_cd 60 3 = some (.aload_n 0) := mt_cd_of (q := (3, .aload_n 0, 1)) mq_60 ci_60 (List.mem_of_getElem? (i := 2) rfl)
theorem cd_60_4 : mt_cd 60 4 = some (.iload_n 1) := mt_cd_of (q := (4, .iload_n 1, 1)) mq_60 ci_60 (List.mem_of_getElem? (i := 3) rfl)
theorem cd_60_5 : mt_cd 60 5 = some (.iload_n 2) := mt_cd_of (q := (5, .iload_n 2, 1)) mq_60 ci_60 (List.mem_of_getElem? (i := 4) rfl)
theorem cd_60_6 : mt_cd 60 6 = some (.iload_n 3) := mt_cd_of (q := (6, .iload_n 3, 1)) mq_60 ci_60 (List.mem_of_getElem? (i := 5) rfl)
theorem cd_60_7 : mt_cd 60 7 = some (.lload 4) := mt_cd_of (q := (7, .lload 4, 2)) mq_60 ci_60 (List.mem_of_getElem? (i := 6) rfl)
theorem cd_60_9 : mt_cd 60 9 = some (.invokevirtual 25) := mt_cd_of (q := (9, .invokevirtual 25, 3)) mq_60 ci_60 (List.mem_of_getElem? (i := 7) rfl)
theorem cd_60_12 : mt_cd 60 12 = some (.i2l) := mt_cd_of (q := (12, .i2l, 1)) mq_60 ci_60 (List.mem_of_getElem? (i := 8) rfl)
theorem cd_60_13 : mt_cd 60 13 = some (.lastore) := mt_cd_of (q := (13, .lastore, 1)) mq_60 ci_60 (List.mem_of_getElem? (i := 9) rfl)
theorem cd_60_14 : mt_cd 60 14 = some (.goto 11) := mt_cd_of (q := (14, .goto 11, 3)) mq_60 ci_60 (List.mem_of_getElem? (i := 10) rfl)
theorem cd_60_17 : mt_cd 60 17 = some (.astore 7) := mt_cd_of (q := (17, .astore 7, 2)) mq_60 ci_60 (List.mem_of_getElem? (i := 11) rfl)
theorem cd_60_19 : mt_cd 60 19 = some (.iconst 1) := mt_cd_of (q := (19, .iconst 1, 1)) mq_60 ci_60 (List.mem_of_getElem? (i := 12) rfl)
theorem cd_60_20 : mt_cd 60 20 = some (.ireturn) := mt_cd_of (q := (20, .ireturn, 1)) mq_60 ci_60 (List.mem_of_getElem? (i := 13) rfl)
theorem cd_60_21 : mt_cd 60 21 = some (.astore 7) := mt_cd_of (q := (21, .astore 7, 2)) mq_60 ci_60 (List.mem_of_getElem? (i := 14) rfl)
theorem cd_60_23 : mt_cd 60 23 = some (.iconst 2) := mt_cd_of (q := (23, .iconst 2, 1)) mq_60 ci_60 (List.mem_of_getElem? (i := 15) rfl)
theorem cd_60_24 : mt_cd 60 24 = some (.ireturn) := mt_cd_of (q := (24, .ireturn, 1)) mq_60 ci_60 (List.mem_of_getElem? (i := 16) rfl)
theorem cd_60_25 : mt_cd 60 25 = some (.iconst 0) := mt_cd_of (q := (25, .iconst 0, 1)) mq_60 ci_60 (List.mem_of_getElem? (i := 17) rfl)
theorem cd_60_26 : mt_cd 60 26 = some (.ireturn) := mt_cd_of (q := (26, .ireturn, 1)) mq_60 ci_60 (List.mem_of_getElem? (i := 18) rfl)
theorem b_60_0 {d : Nat} {Q : (Option Value ⊕ Nat) → mi_H → Prop} (n sl : Nat) (f : Nat → mi_C) {l1 : Nat} {l2 : Int32} {l3 : Int32} {l4 : Int32} {l5 : Int64} {l6 : Nat} {o7 : Option Value} {fs8 : List Value} (h9 : f l1 = .inr (0, fs8)) (h10 : l1 < n) (h11 : mi_W d 61 0 (mi_en 6 [.ref l1, .int l2, .int l3, .int l4, .long l5]) [] (n, sl, f) (mi_Kc d 60 9 [some (.ref l1), some (.int l2), some (.int l3), some (.int l4), some (.long l5), none, some (.ref l6), o7] [.int 0, .ref l6] Q)) : mi_W (d + 1) 60 0 [some (.ref l1), some (.int l2), some (.int l3), some (.int l4), some (.long l5), none, some (.ref l6), o7] [] (n, sl, f) Q := by
  refine w_aload cd_60_0 rfl ?_
  refine w_iconst (v := 0) cd_60_2 (by decide) ?_
  refine w_aload_n cd_60_3 rfl ?_
  refine w_iload_n cd_60_4 rfl ?_
  refine w_iload_n cd_60_5 rfl ?_
  refine w_iload_n cd_60_6 rfl ?_
  refine w_lload cd_60_7 rfl ?_
  exact w_invokevirtual cd_60_9 (show mt_m 18 25 = some (61, 0) by decide +kernel) (rest := [.int 0, .ref l6]) rfl (as := [.ref l1, .int l2, .int l3, .int l4, .long l5]) rfl h9 (Or.inl h10) ⟨Nat.le_of_ble_eq_true rfl, Nat.le_of_ble_eq_true rfl, Nat.le_of_ble_eq_true rfl⟩ h11
theorem b_60_12 {d : Nat} {Q : (Option Value ⊕ Nat) → mi_H → Prop} (n sl : Nat) (f : Nat → mi_C) {l1 : Nat} {l2 : Int32} {l3 : Int32} {l4 : Int32} {l5 : Int64} {l6 : Nat} {o7 : Option Value} {s8 : Int32} {s9 : Int32} {s10 : Nat} (m11 i11 : Nat) (g11 : Nat → Int64) (h12 : f s10 = .inl (3, m11, .inr (.inl g11))) (h13 : s10 < n) (h14 : mi_ix s9 m11 i11) (h15 : mi_W d 60 25 [some (.ref l1), some (.int l2), some (.int l3), some (.int l4), some (.long l5), none, some (.ref l6), o7] [] (n, sl, (va_up f s10 (.inl (3, m11, .inr (.inl (vp_updL g11 i11 ((s8 : Int32).toInt64))))))) Q) : mi_W d 60 12 [some (.ref l1), some (.int l2), some (.int l3), some (.int l4), some (.long l5), none, some (.ref l6), o7] [.int s8, .int s9, .ref s10] (n, sl, f) Q := by
  refine w_i2l cd_60_12 ?_
  refine w_lastore cd_60_13 h12 h13 h14 ?_
  exact w_goto cd_60_14 (by decide) h15
theorem b_60_17 {d : Nat} {Q : (Option Value ⊕ Nat) → mi_H → Prop} (n sl : Nat) (f : Nat → mi_C) {l1 : Nat} {l2 : Int32} {l3 : Int32} {l4 : Int32} {l5 : Int64} {l6 : Nat} {o7 : Option Value} {s8 : Nat} (h9 : Q (.inl (some (.int 1))) (n, sl, f)) : mi_W d 60 17 [some (.ref l1), some (.int l2), some (.int l3), some (.int l4), some (.long l5), none, some (.ref l6), o7] [.ref s8] (n, sl, f) Q := by
  refine w_astore (ls' := [some (.ref l1), some (.int l2), some (.int l3), some (.int l4), some (.long l5), none, some (.ref l6), some (.ref s8)]) cd_60_17 (Nat.le_of_ble_eq_true rfl) rfl ?_
  refine w_iconst (v := 1) cd_60_19 (by decide) ?_
  exact w_ireturn_i cd_60_20 (by decide +kernel) h9
theorem b_60_21 {d : Nat} {Q : (Option Value ⊕ Nat) → mi_H → Prop} (n sl : Nat) (f : Nat → mi_C) {l1 : Nat} {l2 : Int32} {l3 : Int32} {l4 : Int32} {l5 : Int64} {l6 : Nat} {o7 : Option Value} {s8 : Nat} (h9 : Q (.inl (some (.int 2))) (n, sl, f)) : mi_W d 60 21 [some (.ref l1), some (.int l2), some (.int l3), some (.int l4), some (.long l5), none, some (.ref l6), o7] [.ref s8] (n, sl, f) Q := by
  refine w_astore (ls' := [some (.ref l1), some (.int l2), some (.int l3), some (.int l4), some (.long l5), none, some (.ref l6), some (.ref s8)]) cd_60_21 (Nat.le_of_ble_eq_true rfl) rfl ?_
  refine w_iconst (v := 2) cd_60_23 (by decide) ?_
  exact w_ireturn_i cd_60_24 (by decide +kernel) h9
theorem b_60_25 {d : Nat} {Q : (Option Value ⊕ Nat) → mi_H → Prop} (n sl : Nat) (f : Nat → mi_C) {l1 : Nat} {l2 : Int32} {l3 : Int32} {l4 : Int32} {l5 : Int64} {l6 : Nat} {o7 : Option Value} (h8 : Q (.inl (some (.int 0))) (n, sl, f)) : mi_W d 60 25 [some (.ref l1), some (.int l2), some (.int l3), some (.int l4), some (.long l5), none, some (.ref l6), o7] [] (n, sl, f) Q := by
  refine w_iconst (v := 0) cd_60_25 (by decide) ?_
  exact w_ireturn_i cd_60_26 (by decide +kernel) h8
/-! MarloweHost.deposit(IIIJ)I -/
set_option maxRecDepth 100000 in
theorem mq_61 : mt_q 61 = my_61 := rfl
set_option maxRecDepth 100000 in
theorem ci_61 : mt_inc 0 my_61.cd = true := by decide +kernel
theorem cd_61_0 : mt_cd 61 0 = some (.iload_n 1) := mt_cd_of (q := (0, .iload_n 1, 1)) mq_61 ci_61 (List.mem_of_getElem? (i := 0) rfl)
theorem cd_61_1 : mt_cd 61 1 = some (.invokestatic 114) := mt_cd_of (q := (1, .invokestatic 114, 3)) mq_61 ci_61 (List.mem_of_getElem? (i := 1) rfl)
theorem cd_61_4 : mt_cd 61 4 = some (.ifCond .eq 17) := mt_cd_of (q := (4, .ifCond .eq 17, 3)) mq_61 ci_61 (List.mem_of_getElem? (i := 2) rfl)
theorem cd_61_7 : mt_cd 61 7 = some (.iload_n 2) := mt_cd_of (q := (7, .iload_n 2, 1)) mq_61 ci_61 (List.mem_of_getElem? (i := 3) rfl)
theorem cd_61_8 : mt_cd 61 8 = some (.invokestatic 114) := mt_cd_of (q := (8, .invokestatic 114, 3)) mq_61 ci_61 (List.mem_of_getElem? (i := 4) rfl)
theorem cd_61_11 : mt_cd 61 11 = some (.ifCond .eq 10) := mt_cd_of (q := (11, .ifCond .eq 10, 3)) mq_61 ci_61 (List.mem_of_getElem? (i := 5) rfl)
theorem cd_61_14 : mt_cd 61 14 = some (.iload_n 3) := mt_cd_of (q := (14, .iload_n 3, 1)) mq_61 ci_61 (List.mem_of_getElem? (i := 6) rfl)
theorem cd_61_15 : mt_cd 61 15 = some (.invokestatic 118) := mt_cd_of (q := (15, .invokestatic 118, 3)) mq_61 ci_61 (List.mem_of_getElem? (i := 7) rfl)
theorem cd_61_18 : mt_cd 61 18 = some (.ifCond .ne 13) := mt_cd_of (q := (18, .ifCond .ne 13, 3)) mq_61 ci_61 (List.mem_of_getElem? (i := 8) rfl)
theorem cd_61_21 : mt_cd 61 21 = some (.new 123) := mt_cd_of (q := (21, .new 123, 3)) mq_61 ci_61 (List.mem_of_getElem? (i := 9) rfl)
theorem cd_61_24 : mt_cd 61 24 = some (.dup) := mt_cd_of (q := (24, .dup, 1)) mq_61 ci_61 (List.mem_of_getElem? (i := 10) rfl)
theorem cd_61_25 : mt_cd 61 25 = some (.ldc 132) := mt_cd_of (q := (25, .ldc 132, 2)) mq_61 ci_61 (List.mem_of_getElem? (i := 11) rfl)
theorem cd_61_27 : mt_cd 61 27 = some (.invokespecial 127) := mt_cd_of (q := (27, .invokespecial 127, 3)) mq_61 ci_61 (List.mem_of_getElem? (i := 12) rfl)
theorem cd_61_30 : mt_cd 61 30 = some (.athrow) := mt_cd_of (q := (30, .athrow, 1)) mq_61 ci_61 (List.mem_of_getElem? (i := 13) rfl)
theorem cd_61_31 : mt_cd 61 31 = some (.aload_n 0) := mt_cd_of (q := (31, .aload_n 0, 1)) mq_61 ci_61 (List.mem_of_getElem? (i := 14) rfl)
theorem cd_61_32 : mt_cd 61 32 = some (.invokevirtual 134) := mt_cd_of (q := (32, .invokevirtual 134, 3)) mq_61 ci_61 (List.mem_of_getElem? (i := 15) rfl)
theorem cd_61_35 : mt_cd 61 35 = some (.aload_n 0) := mt_cd_of (q := (35, .aload_n 0, 1)) mq_61 ci_61 (List.mem_of_getElem? (i := 16) rfl)
theorem cd_61_36 : mt_cd 61 36 = some (.getfield 42) := mt_cd_of (q := (36, .getfield 42, 3)) mq_61 ci_61 (List.mem_of_getElem? (i := 17) rfl)
theorem cd_61_39 : mt_cd 61 39 = some (.bipush 8) := mt_cd_of (q := (39, .bipush 8, 2)) mq_61 ci_61 (List.mem_of_getElem? (i := 18) rfl)
theorem cd_61_41 : mt_cd 61 41 = some (.iload_n 1) := mt_cd_of (q := (41, .iload_n 1, 1)) mq_61 ci_61 (List.mem_of_getElem? (i := 19) rfl)
theorem cd_61_42 : mt_cd 61 42 = some (.iload_n 2) := mt_cd_of (q := (42, .iload_n 2, 1)) mq_61 ci_61 (List.mem_of_getElem? (i := 20) rfl)
theorem cd_61_43 : mt_cd 61 43 = some (.iload_n 3) := mt_cd_of (q := (43, .iload_n 3, 1)) mq_61 ci_61 (List.mem_of_getElem? (i := 21) rfl)
theorem cd_61_44 : mt_cd 61 44 = some (.lload 4) := mt_cd_of (q := (44, .lload 4, 2)) mq_61 ci_61 (List.mem_of_getElem? (i := 22) rfl)
theorem cd_61_46 : mt_cd 61 46 = some (.invokevirtual 137) := mt_cd_of (q := (46, .invokevirtual 137, 3)) mq_61 ci_61 (List.mem_of_getElem? (i := 23) rfl)
theorem cd_61_49 : mt_cd 61 49 = some (.ireturn) := mt_cd_of (q := (49, .ireturn, 1)) mq_61 ci_61 (List.mem_of_getElem? (i := 24) rfl)
theorem b_61_0 {d : Nat} {Q : (Option Value ⊕ Nat) → mi_H → Prop} (n sl : Nat) (f : Nat → mi_C) {l1 : Nat} {l2 : Int32} {l3 : Int32} {l4 : Int32} {l5 : Int64} (h6 : mi_W d 58 0 (mi_en 1 [.int l2]) [] (n, sl, f) (mi_Kc d 61 1 [some (.ref l1), some (.int l2), some (.int l3), some (.int l4), some (.long l5), none] [] Q)) : mi_W (d + 1) 61 0 [some (.ref l1), some (.int l2), some (.int l3), some (.int l4), some (.long l5), none] [] (n, sl, f) Q := by
  refine w_iload_n cd_61_0 rfl ?_
  exact w_invokestatic cd_61_1 (show mt_m 0 114 = some (58, 4) by decide +kernel) (by decide) (rest := []) rfl (as := [.int l2]) rfl ⟨Nat.le_of_ble_eq_true rfl, Nat.le_of_ble_eq_true rfl, Nat.le_of_ble_eq_true rfl⟩ h6
theorem b_61_4 {d : Nat} {Q : (Option Value ⊕ Nat) → mi_H → Prop} (n sl : Nat) (f : Nat → mi_C) {l1 : Nat} {l2 : Int32} {l3 : Int32} {l4 : Int32} {l5 : Int64} {s6 : Int32} (h7 : s6 = (0 : Int32) → mi_W d 61 21 [some (.ref l1), some (.int l2), some (.int l3), some (.int l4), some (.long l5), none] [] (n, sl, f) Q) (h8 : ¬ (s6 = (0 : Int32)) → mi_W d 61 7 [some (.ref l1), some (.int l2), some (.int l3), some (.int l4), some (.long l5), none] [] (n, sl, f) Q) : mi_W d 61 4 [some (.ref l1), some (.int l2), some (.int l3), some (.int l4), some (.long l5), none] [.int s6] (n, sl, f) Q := by
  exact w_ifeq cd_61_4 (by decide) h7 h8
theorem b_61_7 {d : Nat} {Q : (Option Value ⊕ Nat) → mi_H → Prop} (n sl : Nat) (f : Nat → mi_C) {l1 : Nat} {l2 : Int32} {l3 : Int32} {l4 : Int32} {l5 : Int64} (h6 : mi_W d 58 0 (mi_en 1 [.int l3]) [] (n, sl, f) (mi_Kc d 61 8 [some (.ref l1), some (.int l2), some (.int l3), some (.int l4), some (.long l5), none] [] Q)) : mi_W (d + 1) 61 7 [some (.ref l1), some (.int l2), some (.int l3), some (.int l4), some (.long l5), none] [] (n, sl, f) Q := by
  refine w_iload_n cd_61_7 rfl ?_
  exact w_invokestatic cd_61_8 (show mt_m 0 114 = some (58, 4) by decide +kernel) (by decide) (rest := []) rfl (as := [.int l3]) rfl ⟨Nat.le_of_ble_eq_true rfl, Nat.le_of_ble_eq_true rfl, Nat.le_of_ble_eq_true rfl⟩ h6
theorem b_61_11 {d : Nat} {Q : (Option Value ⊕ Nat) → mi_H → Prop} (n sl : Nat) (f : Nat → mi_C) {l1 : Nat} {l2 : Int32} {l3 : Int32} {l4 : Int32} {l5 : Int64} {s6 : Int32} (h7 : s6 = (0 : Int32) → mi_W d 61 21 [some (.ref l1), some (.int l2), some (.int l3), some (.int l4), some (.long l5), none] [] (n, sl, f) Q) (h8 : ¬ (s6 = (0 : Int32)) → mi_W d 61 14 [some (.ref l1), some (.int l2), some (.int l3), some (.int l4), some (.long l5), none] [] (n, sl, f) Q) : mi_W d 61 11 [some (.ref l1), some (.int l2), some (.int l3), some (.int l4), some (.long l5), none] [.int s6] (n, sl, f) Q := by
  exact w_ifeq cd_61_11 (by decide) h7 h8
theorem b_61_14 {d : Nat} {Q : (Option Value ⊕ Nat) → mi_H → Prop} (n sl : Nat) (f : Nat → mi_C) {l1 : Nat} {l2 : Int32} {l3 : Int32} {l4 : Int32} {l5 : Int64} (h6 : mi_W d 59 0 (mi_en 1 [.int l4]) [] (n, sl, f) (mi_Kc d 61 15 [some (.ref l1), some (.int l2), some (.int l3), some (.int l4), some (.long l5), none] [] Q)) : mi_W (d + 1) 61 14 [some (.ref l1), some (.int l2), some (.int l3), some (.int l4), some (.long l5), none] [] (n, sl, f) Q := by
  refine w_iload_n cd_61_14 rfl ?_
  exact w_invokestatic cd_61_15 (show mt_m 0 118 = some (59, 4) by decide +kernel) (by decide) (rest := []) rfl (as := [.int l4]) rfl ⟨Nat.le_of_ble_eq_true rfl, Nat.le_of_ble_eq_true rfl, Nat.le_of_ble_eq_true rfl⟩ h6
theorem b_61_18 {d : Nat} {Q : (Option Value ⊕ Nat) → mi_H → Prop} (n sl : Nat) (f : Nat → mi_C) {l1 : Nat} {l2 : Int32} {l3 : Int32} {l4 : Int32} {l5 : Int64} {s6 : Int32} (h7 : ¬ s6 = (0 : Int32) → mi_W d 61 31 [some (.ref l1), some (.int l2), some (.int l3), some (.int l4), some (.long l5), none] [] (n, sl, f) Q) (h8 : ¬ (¬ s6 = (0 : Int32)) → mi_W d 61 21 [some (.ref l1), some (.int l2), some (.int l3), some (.int l4), some (.long l5), none] [] (n, sl, f) Q) : mi_W d 61 18 [some (.ref l1), some (.int l2), some (.int l3), some (.int l4), some (.long l5), none] [.int s6] (n, sl, f) Q := by
  exact w_ifne cd_61_18 (by decide) h7 h8
theorem b_61_21 {d : Nat} {Q : (Option Value ⊕ Nat) → mi_H → Prop} (n sl : Nat) (f : Nat → mi_C) {l1 : Nat} {l2 : Int32} {l3 : Int32} {l4 : Int32} {l5 : Int64} {h' : mi_H} (h6 : mi_t 61 21 (.new 123) [] (n, sl, f) = some h') (h7 : Q (.inr n) h') : mi_W d 61 21 [some (.ref l1), some (.int l2), some (.int l3), some (.int l4), some (.long l5), none] [] (n, sl, f) Q := by
  exact w_throw cd_61_21 (show mt_c 0 123 = some 15 by decide +kernel) (by decide) h6 h7
theorem b_61_31 {d : Nat} {Q : (Option Value ⊕ Nat) → mi_H → Prop} (n sl : Nat) (f : Nat → mi_C) {l1 : Nat} {l2 : Int32} {l3 : Int32} {l4 : Int32} {l5 : Int64} {fs6 : List Value} (h7 : f l1 = .inr (0, fs6)) (h8 : l1 < n) (h9 : mi_W d 62 0 (mi_en 1 [.ref l1]) [] (n, sl, f) (mi_Kc d 61 32 [some (.ref l1), some (.int l2), some (.int l3), some (.int l4), some (.long l5), none] [] Q)) : mi_W (d + 1) 61 31 [some (.ref l1), some (.int l2), some (.int l3), some (.int l4), some (.long l5), none] [] (n, sl, f) Q := by
  refine w_aload_n cd_61_31 rfl ?_
  exact w_invokevirtual cd_61_32 (show mt_m 0 134 = some (62, 0) by decide +kernel) (rest := []) rfl (as := [.ref l1]) rfl h7 (Or.inl h8) ⟨Nat.le_of_ble_eq_true rfl, Nat.le_of_ble_eq_true rfl, Nat.le_of_ble_eq_true rfl⟩ h9
theorem b_61_35 {d : Nat} {Q : (Option Value ⊕ Nat) → mi_H → Prop} (n sl : Nat) (f : Nat → mi_C) {l1 : Nat} {l2 : Int32} {l3 : Int32} {l4 : Int32} {l5 : Int64} {fs6 : List Value} {x9 : Nat} {fs11 : List Value} (h7 : f l1 = .inr (0, fs6)) (h8 : l1 < n) (h10 : fs6[4]? = some (.ref x9)) (h12 : f x9 = .inr (6, fs11)) (h13 : x9 < n) (h14 : mi_W d 63 0 (mi_en 7 [.ref x9, .int 8, .int l2, .int l3, .int l4, .long l5]) [] (n, sl, f) (mi_Kc d 61 46 [some (.ref l1), some (.int l2), some (.int l3), some (.int l4), some (.long l5), none] [] Q)) : mi_W (d + 1) 61 35 [some (.ref l1), some (.int l2), some (.int l3), some (.int l4), some (.long l5), none] [] (n, sl, f) Q := by
  refine w_aload_n cd_61_35 rfl ?_
  refine w_getfield cd_61_36 (show mt_f 0 42 = some (0, 4) by decide +kernel) h7 h8 h10 ?_
  refine w_bipush (v := 8) cd_61_39 (by decide) ?_
  refine w_iload_n cd_61_41 rfl ?_
  refine w_iload_n cd_61_42 rfl ?_
  refine w_iload_n cd_61_43 rfl ?_
  refine w_lload cd_61_44 rfl ?_
  exact w_invokevirtual cd_61_46 (show mt_m 0 137 = some (63, 0) by decide +kernel) (rest := []) rfl (as := [.ref x9, .int 8, .int l2, .int l3, .int l4, .long l5]) rfl h12 (Or.inl h13) ⟨Nat.le_of_ble_eq_true rfl, Nat.le_of_ble_eq_true rfl, Nat.le_of_ble_eq_true rfl⟩ h14
theorem b_61_49 {d : Nat} {Q : (Option Value ⊕ Nat) → mi_H → Prop} (n sl : Nat) (f : Nat → mi_C) {l1 : Nat} {l2 : Int32} {l3 : Int32} {l4 : Int32} {l5 : Int64} {s6 : Int32} (h7 : Q (.inl (some (.int s6))) (n, sl, f)) : mi_W d 61 49 [some (.ref l1), some (.int l2), some (.int l3), some (.int l4), some (.long l5), none] [.int s6] (n, sl, f) Q := by
  exact w_ireturn_i cd_61_49 (by decide +kernel) h7
/-! MarloweHost.requireRoomForInput()V -/
set_option maxRecDepth 100000 in
theorem mq_62 : mt_q 62 = my_62 := rfl
set_option maxRecDepth 100000 in
theorem ci_62 : mt_inc 0 my_62.cd = true := by decide +kernel
theorem cd_62_0 : mt_cd 62 0 = some (.aload_n 0) := mt_cd_of (q := (0, .aload_n 0, 1)) mq_62 ci_62 (List.mem_of_getElem? (i := 0) rfl)
theorem cd_62_1 : mt_cd 62 1 = some (.getfield 42) := mt_cd_of (q := (1, .getfield 42, 3)) mq_62 ci_62 (List.mem_of_getElem? (i := 1) rfl)
theorem cd_62_4 : mt_cd 62 4 = some (.getfield 91) := mt_cd_of (q := (4, .getfield 91, 3)) mq_62 ci_62 (List.mem_of_getElem? (i := 2) rfl)
theorem cd_62_7 : mt_cd 62 7 = some (.bipush 16) := mt_cd_of (q := (7, .bipush 16, 2)) mq_62 ci_62 (List.mem_of_getElem? (i := 3) rfl)
theorem cd_62_9 : mt_cd 62 9 = some (.if_icmp .lt 14) := mt_cd_of (q := (9, .if_icmp .lt 14, 3)) mq_62 ci_62 (List.mem_of_getElem? (i := 4) rfl)
theorem cd_62_12 : mt_cd 62 12 = some (.new 78) := mt_cd_of (q := (12, .new 78, 3)) mq_62 ci_62 (List.mem_of_getElem? (i := 5) rfl)
theorem cd_62_15 : mt_cd 62 15 = some (.dup) := mt_cd_of (q := (15, .dup, 1)) mq_62 ci_62 (List.mem_of_getElem? (i := 6) rfl)
theorem cd_62_16 : mt_cd 62 16 = some (.ldc_w 258) := mt_cd_of (q := (16, .ldc_w 258, 3)) mq_62 ci_62 (List.mem_of_getElem? (i := 7) rfl)
theorem cd_62_19 : mt_cd 62 19 = some (.invokespecial 82) := mt_cd_of (q := (19, .invokespecial 82, 3)) mq_62 ci_62 (List.mem_of_getElem? (i := 8) rfl)
theorem cd_62_22 : mt_cd 62 22 = some (.athrow) := mt_cd_of (q := (22, .athrow, 1)) mq_62 ci_62 (List.mem_of_getElem? (i := 9) rfl)
theorem cd_62_23 : mt_cd 62 23 = some (.return_) := mt_cd_of (q := (23, .return_, 1)) mq_62 ci_62 (List.mem_of_getElem? (i := 10) rfl)
theorem b_62_0 {d : Nat} {Q : (Option Value ⊕ Nat) → mi_H → Prop} (n sl : Nat) (f : Nat → mi_C) {l1 : Nat} {fs2 : List Value} {x5 : Nat} {fs7 : List Value} {x10 : Int32} (h3 : f l1 = .inr (0, fs2)) (h4 : l1 < n) (h6 : fs2[4]? = some (.ref x5)) (h8 : f x5 = .inr (6, fs7)) (h9 : x5 < n) (h11 : fs7[5]? = some (.int x10)) (h12 : x10 < 16 → mi_W d 62 23 [some (.ref l1)] [] (n, sl, f) Q) (h13 : ¬ (x10 < 16) → mi_W d 62 12 [some (.ref l1)] [] (n, sl, f) Q) : mi_W d 62 0 [some (.ref l1)] [] (n, sl, f) Q := by
  refine w_aload_n cd_62_0 rfl ?_
  refine w_getfield cd_62_1 (show mt_f 0 42 = some (0, 4) by decide +kernel) h3 h4 h6 ?_
  refine w_getfield cd_62_4 (show mt_f 0 91 = some (6, 5) by decide +kernel) h8 h9 h11 ?_
  refine w_bipush (v := 16) cd_62_7 (by decide) ?_
  exact w_if_icmplt cd_62_9 (by decide) h12 h13
theorem b_62_12 {d : Nat} {Q : (Option Value ⊕ Nat) → mi_H → Prop} (n sl : Nat) (f : Nat → mi_C) {l1 : Nat} {h' : mi_H} (h2 : mi_t 62 12 (.new 78) [] (n, sl, f) = some h') (h3 : Q (.inr n) h') : mi_W d 62 12 [some (.ref l1)] [] (n, sl, f) Q := by
  exact w_throw cd_62_12 (show mt_c 0 78 = some 14 by decide +kernel) (by decide) h2 h3
theorem b_62_23 {d : Nat} {Q : (Option Value ⊕ Nat) → mi_H → Prop} (n sl : Nat) (f : Nat → mi_C) {l1 : Nat} (h2 : Q (.inl none) (n, sl, f)) : mi_W d 62 23 [some (.ref l1)] [] (n, sl, f) Q := by
  exact w_return cd_62_23 (by decide +kernel) h2
/-! MarloweHost$Inputs.add(IIIIJ)I -/
set_option maxRecDepth 100000 in
theorem mq_63 : mt_q 63 = my_63 := rfl
set_option maxRecDepth 100000 in
theorem ci_63 : mt_inc 0 my_63.cd = true := by decide +kernel
theorem cd_63_0 : mt_cd 63 0 = some (.aload_n 0) := mt_cd_of (q := (0, .aload_n 0, 1)) mq_63 ci_63 (List.mem_of_getElem? (i := 0) rfl)
theorem cd_63_1 : mt_cd 63 1 = some (.getfield 28) := mt_cd_of (q := (1, .getfield 28, 3)) mq_63 ci_63 (List.mem_of_getElem? (i := 1) rfl)
theorem cd_63_4 : mt_cd 63 4 = some (.ifCond .lt 74) := mt_cd_of (q := (4, .ifCond .lt 74, 3)) mq_63 ci_63 (List.mem_of_getElem? (i := 2) rfl)
theorem cd_63_7 : mt_cd 63 7 = some (.aload_n 0) := mt_cd_of (q := (7, .aload_n 0, 1)) mq_63 ci_63 (List.mem_of_getElem? (i := 3) rfl)
theorem cd_63_8 : mt_cd 63 8 = some (.getfield 28) := mt_cd_of (q := (8, .getfield 28, 3)) mq_63 ci_63 (List.mem_of_getElem? (i := 4) rfl)
theorem cd_63_11 : mt_cd 63 11 = some (.bipush 16) := mt_cd_of (q := (11, .bipush 16, 2)) mq_63 ci_63 (List.mem_of_getElem? (i := 5) rfl)
theorem cd_63_13 : mt_cd 63 13 = some (.if_icmp .ge 65) := mt_cd_of (q := (13, .if_icmp .ge 65, 3)) mq_63 ci_63 (List.mem_of_getElem? (i := 6) rfl)
theorem cd_63_16 : mt_cd 63 16 = some (.aload_n 0) := mt_cd_of (q := (16, .aload_n 0, 1)) mq_63 ci_63 (List.mem_of_getElem? (i := 7) rfl)
theorem cd_63_17 : mt_cd 63 17 = some (.getfield 9) := mt_cd_of (q := (17, .getfield 9, 3)) mq_63 ci_63 (List.mem_of_getElem? (i := 8) rfl)
theorem cd_63_20 : mt_cd 63 20 = some (.aload_n 0) := mt_cd_of (q := (20, .aload_n 0, 1)) mq_63 ci_63 (List.mem_of_getElem? (i := 9) rfl)
theorem cd_63_21 : mt_cd 63 21 = some (.getfield 28) := mt_cd_of (q := (21, .getfield 28, 3)) mq_63 ci_63 (List.mem_of_getElem? (i := 10) rfl)
theorem cd_63_24 : mt_cd 63 24 = some (.iload_n 1) := mt_cd_of (q := (24, .iload_n 1, 1)) mq_63 ci_63 (List.mem_of_getElem? (i := 11) rfl)
theorem cd_63_25 : mt_cd 63 25 = some (.iastore) := mt_cd_of (q := (25, .iastore, 1)) mq_63 ci_63 (List.mem_of_getElem? (i := 12) rfl)
theorem cd_63_26 : mt_cd 63 26 = some (.aload_n 0) := mt_cd_of (q := (26, .aload_n 0, 1)) mq_63 ci_63 (List.mem_of_getElem? (i := 13) rfl)
theorem cd_63_27 : mt_cd 63 27 = some (.getfield 15) := mt_cd_of (q := (27, .getfield 15, 3)) mq_63 ci_63 (List.mem_of_getElem? (i := 14) rfl)
theorem cd_63_30 : mt_cd 63 30 = some (.aload_n 0) := mt_cd_of (q := (30, .aload_n 0, 1)) mq_63 ci_63 (List.mem_of_getElem? (i := 15) rfl)
theorem cd_63_31 : mt_cd 63 31 = some (.getfield 28) := mt_cd_of (q := (31, .getfield 28, 3)) mq_63 ci_63 (List.mem_of_getElem? (i := 16) rfl)
theorem cd_63_34 : mt_cd 63 34 = some (.iload_n 2) := mt_cd_of (q := (34, .iload_n 2, 1)) mq_63 ci_63 (List.mem_of_getElem? (i := 17) rfl)
theorem cd_63_35 : mt_cd 63 35 = some (.iastore) := mt_cd_of (q := (35, .iastore, 1)) mq_63 ci_63 (List.mem_of_getElem? (i := 18) rfl)
theorem cd_63_36 : mt_cd 63 36 = some (.aload_n 0) := mt_cd_of (q := (36, .aload_n 0, 1)) mq_63 ci_63 (List.mem_of_getElem? (i := 19) rfl)
theorem cd_63_37 : mt_cd 63 37 = some (.getfield 18) := mt_cd_of (q := (37, .getfield 18, 3)) mq_63 ci_63 (List.mem_of_getElem? (i := 20) rfl)
theorem cd_63_40 : mt_cd 63 40 = some (.aload_n 0) := mt_cd_of (q := (40, .aload_n 0, 1)) mq_63 ci_63 (List.mem_of_getElem? (i := 21) rfl)
theorem cd_63_41 : mt_cd 63 41 = some (.getfield 28) := mt_cd_of (q := (41, .getfield 28, 3)) mq_63 ci_63 (List.mem_of_getElem? (i := 22) rfl)
theorem cd_63_44 : mt_cd 63 44 = some (.iload_n 3) := mt_cd_of (q := (44, .iload_n 3, 1)) mq_63 ci_63 (List.mem_of_getElem? (i := 23) rfl)
theorem cd_63_45 : mt_cd 63 45 = some (.iastore) := mt_cd_of (q := (45, .iastore, 1)) mq_63 ci_63 (List.mem_of_getElem? (i := 24) rfl)
theorem cd_63_46 : mt_cd 63 46 = some (.aload_n 0) := mt_cd_of (q := (46, .aload_n 0, 1)) mq_63 ci_63 (List.mem_of_getElem? (i := 25) rfl)
theorem cd_63_47 : mt_cd 63 47 = some (.getfield 21) := mt_cd_of (q := (47, .getfield 21, 3)) mq_63 ci_63 (List.mem_of_getElem? (i := 26) rfl)
theorem cd_63_50 : mt_cd 63 50 = some (.aload_n 0) := mt_cd_of (q := (50, .aload_n 0, 1)) mq_63 ci_63 (List.mem_of_getElem? (i := 27) rfl)
theorem cd_63_51 : mt_cd 63 51 = some (.getfield 28) := mt_cd_of (q := (51, .getfield 28, 3)) mq_63 ci_63 (List.mem_of_getElem? (i := 28) rfl)
theorem cd_63_54 : mt_cd 63 54 = some (.iload 4) := mt_cd_of (q := (54, .iload 4, 2)) mq_63 ci_63 (List.mem_of_getElem? (i := 29) rfl)
theorem cd_63_56 : mt_cd 63 56 = some (.iastore) := mt_cd_of (q := (56, .iastore, 1)) mq_63 ci_63 (List.mem_of_getElem? (i := 30) rfl)
theorem cd_63_57 : mt_cd 63 57 = some (.aload_n 0) := mt_cd_of (q := (57, .aload_n 0, 1)) mq_63 ci_63 (List.mem_of_getElem? (i := 31) rfl)
theorem cd_63_58 : mt_cd 63 58 = some (.getfield 24) := mt_cd_of (q := (58, .getfield 24, 3)) mq_63 ci_63 (List.mem_of_getElem? (i := 32) rfl)
theorem cd_63_61 : mt_cd 63 61 = some (.aload_n 0) := mt_cd_of (q := (61, .aload_n 0, 1)) mq_63 ci_63 (List.mem_of_getElem? (i := 33) rfl)
theorem cd_63_62 : mt_cd 63 62 = some (.getfield 28) := mt_cd_of (q := (62, .getfield 28, 3)) mq_63 ci_63 (List.mem_of_getElem? (i := 34) rfl)
theorem cd_63_65 : mt_cd 63 65 = some (.lload 5) := mt_cd_of (q := (65, .lload 5, 2)) mq_63 ci_63 (List.mem_of_getElem? (i := 35) rfl)
theorem cd_63_67 : mt_cd 63 67 = some (.lastore) := mt_cd_of (q := (67, .lastore, 1)) mq_63 ci_63 (List.mem_of_getElem? (i := 36) rfl)
theorem cd_63_68 : mt_cd 63 68 = some (.aload_n 0) := mt_cd_of (q := (68, .aload_n 0, 1)) mq_63 ci_63 (List.mem_of_getElem? (i := 37) rfl)
theorem cd_63_69 : mt_cd 63 69 = some (.dup) := mt_cd_of (q := (69, .dup, 1)) mq_63 ci_63 (List.mem_of_getElem? (i := 38) rfl)
theorem cd_63_70 : mt_cd 63 70 = some (.getfield 28) := mt_cd_of (q := (70, .getfield 28, 3)) mq_63 ci_63 (List.mem_of_getElem? (i := 39) rfl)
theorem cd_63_73 : mt_cd 63 73 = some (.iconst 1) := mt_cd_of (q := (73, .iconst 1, 1)) mq_63 ci_63 (List.mem_of_getElem? (i := 40) rfl)
theorem cd_63_74 : mt_cd 63 74 = some (.iadd) := mt_cd_of (q := (74, .iadd, 1)) mq_63 ci_63 (List.mem_of_getElem? (i := 41) rfl)
theorem cd_63_75 : mt_cd 63 75 = some (.putfield 28) := mt_cd_of (q := (75, .putfield 28, 3)) mq_63 ci_63 (List.mem_of_getElem? (i := 42) rfl)
theorem cd_63_78 : mt_cd 63 78 = some (.aload_n 0) := mt_cd_of (q := (78, .aload_n 0, 1)) mq_63 ci_63 (List.mem_of_getElem? (i := 43) rfl)
theorem cd_63_79 : mt_cd 63 79 = some (.getfield 28) := mt_cd_of (q := (79, .getfield 28, 3)) mq_63 ci_63 (List.mem_of_getElem? (i := 44) rfl)
theorem cd_63_82 : mt_cd 63 82 = some (.ireturn) := mt_cd_of (q := (82, .ireturn, 1)) mq_63 ci_63 (List.mem_of_getElem? (i := 45) rfl)
theorem b_63_0 {d : Nat} {Q : (Option Value ⊕ Nat) → mi_H → Prop} (n sl : Nat) (f : Nat → mi_C) {l1 : Nat} {l2 : Int32} {l3 : Int32} {l4 : Int32} {l5 : Int32} {l6 : Int64} {fs7 : List Value} {x10 : Int32} (h8 : f l1 = .inr (6, fs7)) (h9 : l1 < n) (h11 : fs7[5]? = some (.int x10)) (h12 : x10 < (0 : Int32) → mi_W d 63 78 [some (.ref l1), some (.int l2), some (.int l3), some (.int l4), some (.int l5), some (.long l6), none] [] (n, sl, f) Q) (h13 : ¬ (x10 < (0 : Int32)) → mi_W d 63 7 [some (.ref l1), some (.int l2), some (.int l3), some (.int l4), some (.int l5), some (.long l6), none] [] (n, sl, f) Q) : mi_W d 63 0 [some (.ref l1), some (.int l2), some (.int l3), some (.int l4), some (.int l5), some (.long l6), none] [] (n, sl, f) Q := by
  refine w_aload_n cd_63_0 rfl ?_
  refine w_getfield cd_63_1 (show mt_f 6 28 = some (6, 5) by decide +kernel) h8 h9 h11 ?_
  exact w_iflt cd_63_4 (by decide) h12 h13
theorem b_63_7 {d : Nat} {Q : (Option Value ⊕ Nat) → mi_H → Prop} (n sl : Nat) (f : Nat → mi_C) {l1 : Nat} {l2 : Int32} {l3 : Int32} {l4 : Int32} {l5 : Int32} {l6 : Int64} {fs7 : List Value} {x10 : Int32} (h8 : f l1 = .inr (6, fs7)) (h9 : l1 < n) (h11 : fs7[5]? = some (.int x10)) (h12 : 16 ≤ x10 → mi_W d 63 78 [some (.ref l1), some (.int l2), some (.int l3), some (.int l4), some (.int l5), some (.long l6), none] [] (n, sl, f) Q) (h13 : ¬ (16 ≤ x10) → mi_W d 63 16 [some (.ref l1), some (.int l2), some (.int l3), some (.int l4), some (.int l5), some (.long l6), none] [] (n, sl, f) Q) : mi_W d 63 7 [some (.ref l1), some (.int l2), some (.int l3), some (.int l4), some (.int l5), some (.long l6), none] [] (n, sl, f) Q := by
  refine w_aload_n cd_63_7 rfl ?_
  refine w_getfield cd_63_8 (show mt_f 6 28 = some (6, 5) by decide +kernel) h8 h9 h11 ?_
  refine w_bipush (v := 16) cd_63_11 (by decide) ?_
  exact w_if_icmpge cd_63_13 (by decide) h12 h13
theorem b_63_16 {d : Nat} {Q : (Option Value ⊕ Nat) → mi_H → Prop} (n sl : Nat) (f : Nat → mi_C) {l1 : Nat} {l2 : Int32} {l3 : Int32} {l4 : Int32} {l5 : Int32} {l6 : Int64} {fs7 : List Value} {x10 : Nat} {fs12 : List Value} {x15 : Int32} (m17 i17 : Nat) (g17 : Nat → Int32) {fs21 : List Value} {x24 : Nat} {fs26 : List Value} {x29 : Int32} (m31 i31 : Nat) (g31 : Nat → Int32) {fs35 : List Value} {x38 : Nat} {fs40 : List Value} {x43 : Int32} (m45 i45 : Nat) (g45 : Nat → Int32) {fs49 : List Value} {x52 : Nat} {fs54 : List Value} {x57 : Int32} (m59 i59 : Nat) (g59 : Nat → Int32) {fs63 : List Value} {x66 : Nat} {fs68 : List Value} {x71 : Int32} (m73 i73 : Nat) (g73 : Nat → Int64) {fs77 : List Value} {x80 : Int32} {fs82 : List Value} (h8 : f l1 = .inr (6, fs7)) (h9 : l1 < n) (h11 : fs7[0]? = some (.ref x10)) (h13 : f l1 = .inr (6, fs12)) (h14 : l1 < n) (h16 : fs12[5]? = some (.int x15)) (h18 : f x10 = .inl (0, m17, .inl g17)) (h19 : x10 < n) (h20 : mi_ix x15 m17 i17) (h22 : (va_up f x10 (.inl (0, m17, .inl (upd g17 i17 l2)))) l1 = .inr (6, fs21)) (h23 : l1 < n) (h25 : fs21[1]? = some (.ref x24)) (h27 : (va_up f x10 (.inl (0, m17, .inl (upd g17 i17 l2)))) l1 = .inr (6, fs26)) (h28 : l1 < n) (h30 : fs26[5]? = some (.int x29)) (h32 : (va_up f x10 (.inl (0, m17, .inl (upd g17 i17 l2)))) x24 = .inl (0, m31, .inl g31)) (h33 : x24 < n) (h34 : mi_ix x29 m31 i31) (h36 : (va_up (va_up f x10 (.inl (0, m17, .inl (upd g17 i17 l2)))) x24 (.inl (0, m31, .inl (upd g31 i31 l3)))) l1 = .inr (6, fs35)) (h37 : l1 < n) (h39 : fs35[2]? = some (.ref x38)) (h41 : (va_up (va_up f x10 (.inl (0, m17, .inl (upd g17 i17 l2)))) x24 (.inl (0, m31, .inl (upd g31 i31 l3)))) l1 = .inr (6, fs40)) (h42 : l1 < n) (h44 : fs40[5]? = some (.int x43)) (h46 : (va_up (va_up f x10 (.inl (0, m17, .inl (upd g17 i17 l2)))) x24 (.inl (0, m31, .inl (upd g31 i31 l3)))) x38 = .inl (0, m45, .inl g45)) (h47 : x38 < n) (h48 : mi_ix x43 m45 i45) (h50 : (va_up (va_up (va_up f x10 (.inl (0, m17, .inl (upd g17 i17 l2)))) x24 (.inl (0, m31, .inl (upd g31 i31 l3)))) x38 (.inl (0, m45, .inl (upd g45 i45 l4)))) l1 = .inr (6, fs49)) (h51 : l1 < n) (h53 : fs49[3]? = some (.ref x52)) (h55 : (va_up (va_up (va_up f x10 (.inl (0, m17, .inl (upd g17 i17 l2)))) x24 (.inl (0, m31, .inl (upd g31 i31 l3)))) x38 (.inl (0, m45, .inl (upd g45 i45 l4)))) l1 = .inr (6, fs54)) (h56 : l1 < n) (h58 : fs54[5]? = some (.int x57)) (h60 : (va_up (va_up (va_up f x10 (.inl (0, m17, .inl (upd g17 i17 l2)))) x24 (.inl (0, m31, .inl (upd g31 i31 l3)))) x38 (.inl (0, m45, .inl (upd g45 i45 l4)))) x52 = .inl (0, m59, .inl g59)) (h61 : x52 < n) (h62 : mi_ix x57 m59 i59) (h64 : (va_up (va_up (va_up (va_up f x10 (.inl (0, m17, .inl (upd g17 i17 l2)))) x24 (.inl (0, m31, .inl (upd g31 i31 l3)))) x38 (.inl (0, m45, .inl (upd g45 i45 l4)))) x52 (.inl (0, m59, .inl (upd g59 i59 l5)))) l1 = .inr (6, fs63)) (h65 : l1 < n) (h67 : fs63[4]? = some (.ref x66)) (h69 : (va_up (va_up (va_up (va_up f x10 (.inl (0, m17, .inl (upd g17 i17 l2)))) x24 (.inl (0, m31, .inl (upd g31 i31 l3)))) x38 (.inl (0, m45, .inl (upd g45 i45 l4)))) x52 (.inl (0, m59, .inl (upd g59 i59 l5)))) l1 = .inr (6, fs68)) (h70 : l1 < n) (h72 : fs68[5]? = some (.int x71)) (h74 : (va_up (va_up (va_up (va_up f x10 (.inl (0, m17, .inl (upd g17 i17 l2)))) x24 (.inl (0, m31, .inl (upd g31 i31 l3)))) x38 (.inl (0, m45, .inl (upd g45 i45 l4)))) x52 (.inl (0, m59, .inl (upd g59 i59 l5)))) x66 = .inl (3, m73, .inr (.inl g73))) (h75 : x66 < n) (h76 : mi_ix x71 m73 i73) (h78 : (va_up (va_up (va_up (va_up (va_up f x10 (.inl (0, m17, .inl (upd g17 i17 l2)))) x24 (.inl (0, m31, .inl (upd g31 i31 l3)))) x38 (.inl (0, m45, .inl (upd g45 i45 l4)))) x52 (.inl (0, m59, .inl (upd g59 i59 l5)))) x66 (.inl (3, m73, .inr (.inl (vp_updL g73 i73 l6))))) l1 = .inr (6, fs77)) (h79 : l1 < n) (h81 : fs77[5]? = some (.int x80)) (h83 : (va_up (va_up (va_up (va_up (va_up f x10 (.inl (0, m17, .inl (upd g17 i17 l2)))) x24 (.inl (0, m31, .inl (upd g31 i31 l3)))) x38 (.inl (0, m45, .inl (upd g45 i45 l4)))) x52 (.inl (0, m59, .inl (upd g59 i59 l5)))) x66 (.inl (3, m73, .inr (.inl (vp_updL g73 i73 l6))))) l1 = .inr (6, fs82)) (h84 : l1 < n) (h85 : 5 < fs82.length) (h86 : mi_W d 63 78 [some (.ref l1), some (.int l2), some (.int l3), some (.int l4), some (.int l5), some (.long l6), none] [] (n, sl, (va_up (va_up (va_up (va_up (va_up (va_up f x10 (.inl (0, m17, .inl (upd g17 i17 l2)))) x24 (.inl (0, m31, .inl (upd g31 i31 l3)))) x38 (.inl (0, m45, .inl (upd g45 i45 l4)))) x52 (.inl (0, m59, .inl (upd g59 i59 l5)))) x66 (.inl (3, m73, .inr (.inl (vp_updL g73 i73 l6))))) l1 (.inr (6, fs82.set 5 (.int (x80 + 1)))))) Q) : mi_W d 63 16 [some (.ref l1), some (.int l2), some (.int l3), some (.int l4), some (.int l5), some (.long l6), none] [] (n, sl, f) Q := by
  refine w_aload_n cd_63_16 rfl ?_
  refine w_getfield cd_63_17 (show mt_f 6 9 = some (6, 0) by decide +kernel) h8 h9 h11 ?_
  refine w_aload_n cd_63_20 rfl ?_
  refine w_getfield cd_63_21 (show mt_f 6 28 = some (6, 5) by decide +kernel) h13 h14 h16 ?_
  refine w_iload_n cd_63_24 rfl ?_
  refine w_iastore cd_63_25 h18 h19 h20 ?_
  refine w_aload_n cd_63_26 rfl ?_
  refine w_getfield cd_63_27 (show mt_f 6 15 = some (6, 1) by decide +kernel) h22 h23 h25 ?_
  refine w_aload_n cd_63_30 rfl ?_
  refine w_getfield cd_63_31 (show mt_f 6 28 = some (6, 5) by decide +kernel) h27 h28 h30 ?_
  refine w_iload_n cd_63_34 rfl ?_
  refine w_iastore cd_63_35 h32 h33 h34 ?_
  refine w_aload_n cd_63_36 rfl ?_
  refine w_getfield cd_63_37 (show mt_f 6 18 = some (6, 2) by decide +kernel) h36 h37 h39 ?_
  refine w_aload_n cd_63_40 rfl ?_
  refine w_getfield cd_63_41 (show mt_f 6 28 = some (6, 5) by decide +kernel) h41 h42 h44 ?_
  refine w_iload_n cd_63_44 rfl ?_
  refine w_iastore cd_63_45 h46 h47 h48 ?_
  refine w_aload_n cd_63_46 rfl ?_
  refine w_getfield cd_63_47 (show mt_f 6 21 = some (6, 3) by decide +kernel) h50 h51 h53 ?_
  refine w_aload_n cd_63_50 rfl ?_
  refine w_getfield cd_63_51 (show mt_f 6 28 = some (6, 5) by decide +kernel) h55 h56 h58 ?_
  refine w_iload cd_63_54 rfl ?_
  refine w_iastore cd_63_56 h60 h61 h62 ?_
  refine w_aload_n cd_63_57 rfl ?_
  refine w_getfield cd_63_58 (show mt_f 6 24 = some (6, 4) by decide +kernel) h64 h65 h67 ?_
  refine w_aload_n cd_63_61 rfl ?_
  refine w_getfield cd_63_62 (show mt_f 6 28 = some (6, 5) by decide +kernel) h69 h70 h72 ?_
  refine w_lload cd_63_65 rfl ?_
  refine w_lastore cd_63_67 h74 h75 h76 ?_
  refine w_aload_n cd_63_68 rfl ?_
  refine w_dup_r cd_63_69 ?_
  refine w_getfield cd_63_70 (show mt_f 6 28 = some (6, 5) by decide +kernel) h78 h79 h81 ?_
  refine w_iconst (v := 1) cd_63_73 (by decide) ?_
  refine w_iadd cd_63_74 ?_
  refine w_putfield (w := .int (x80 + 1)) cd_63_75 (show mt_f 6 28 = some (6, 5) by decide +kernel) h83 h84 ⟨h85, rfl, Or.inl (by decide)⟩ ?_
  exact h86
theorem b_63_78 {d : Nat} {Q : (Option Value ⊕ Nat) → mi_H → Prop} (n sl : Nat) (f : Nat → mi_C) {l1 : Nat} {l2 : Int32} {l3 : Int32} {l4 : Int32} {l5 : Int32} {l6 : Int64} {fs7 : List Value} {x10 : Int32} (h8 : f l1 = .inr (6, fs7)) (h9 : l1 < n) (h11 : fs7[5]? = some (.int x10)) (h12 : Q (.inl (some (.int x10))) (n, sl, f)) : mi_W d 63 78 [some (.ref l1), some (.int l2), some (.int l3), some (.int l4), some (.int l5), some (.long l6), none] [] (n, sl, f) Q := by
  refine w_aload_n cd_63_78 rfl ?_
  refine w_getfield cd_63_79 (show mt_f 6 28 = some (6, 5) by decide +kernel) h8 h9 h11 ?_
  exact w_ireturn_i cd_63_82 (by decide +kernel) h12
/-! MarloweHostLaw.choose(LMarloweHost;IJ[J)I -/
set_option maxRecDepth 100000 in
theorem mq_64 : mt_q 64 = my_64 := rfl
set_option maxRecDepth 100000 in
theorem ci_64 : mt_inc 0 my_64.cd = true := by decide +kernel
theorem cd_64_0 : mt_cd 64 0 = some (.aload 4) := mt_cd_of (q := (0, .aload 4, 2)) mq_64 ci_64 (List.mem_of_getElem? (i := 0) rfl)
theorem cd_64_2 : mt_cd 64 2 = some (.iconst 0) := mt_cd_of (q := (2, .iconst 0, 1)) mq_64 ci_64 (List.mem_of_getElem? (i := 1) rfl)
theorem cd_64_3 : mt_cd 64 3 = some (.aload_n 0) := mt_cd_of (q := (3, .aload_n 0, 1)) mq_64 ci_64 (List.mem_of_getElem? (i := 2) rfl)
theorem cd_64_4 : mt_cd 64 4 = some (.iload_n 1) := mt_cd_of (q := (4, .iload_n 1, 1)) mq_64 ci_64 (List.mem_of_getElem? (i := 3) rfl)
theorem cd_64_5 : mt_cd 64 5 = some (.lload_n 2) := mt_cd_of (q := (5, .lload_n 2, 1)) mq_64 ci_64 (List.mem_of_getElem? (i := 4) rfl)
theorem cd_64_6 : mt_cd 64 6 = some (.invokevirtual 29) := mt_cd_of (q := (6, .invokevirtual 29, 3)) mq_64 ci_64 (List.mem_of_getElem? (i := 5) rfl)
theorem cd_64_9 : mt_cd 64 9 = some (.i2l) := mt_cd_of (q := (9, .i2l, 1)) mq_64 ci_64 (List.mem_of_getElem? (i := 6) rfl)
theorem cd_64_10 : mt_cd 64 10 = some (.lastore) := mt_cd_of (q := (10, .lastore, 1)) mq_64 ci_64 (List.mem_of_getElem? (i := 7) rfl)
theorem cd_64_11 : mt_cd 64 11 = some (.goto 11) := mt_cd_of (q := (11, .goto 11, 3)) mq_64 ci_64 (List.mem_of_getElem? (i := 8) rfl)
theorem cd_64_14 : mt_cd 64 14 = some (.astore 5) := mt_cd_of (q := (14, .astore 5, 2)) mq_64 ci_64 (List.mem_of_getElem? (i := 9) rfl)
theorem cd_64_16 : mt_cd 64 16 = some (.iconst 1) := mt_cd_of (q := (16, .iconst 1, 1)) mq_64 ci_64 (List.mem_of_getElem? (i := 10) rfl)
theorem cd_64_17 : mt_cd 64 17 = some (.ireturn) := mt_cd_of (q := (17, .ireturn, 1)) mq_64 ci_64 (List.mem_of_getElem? (i := 11) rfl)
theorem cd_64_18 : mt_cd 64 18 = some (.astore 5) := mt_cd_of (q := (18, .astore 5, 2)) mq_64 ci_64 (List.mem_of_getElem? (i := 12) rfl)
theorem cd_64_20 : mt_cd 64 20 = some (.iconst 2) := mt_cd_of (q := (20, .iconst 2, 1)) mq_64 ci_64 (List.mem_of_getElem? (i := 13) rfl)
theorem cd_64_21 : mt_cd 64 21 = some (.ireturn) := mt_cd_of (q := (21, .ireturn, 1)) mq_64 ci_64 (List.mem_of_getElem? (i := 14) rfl)
theorem cd_64_22 : mt_cd 64 22 = some (.iconst 0) := mt_cd_of (q := (22, .iconst 0, 1)) mq_64 ci_64 (List.mem_of_getElem? (i := 15) rfl)
theorem cd_64_23 : mt_cd 64 23 = some (.ireturn) := mt_cd_of (q := (23, .ireturn, 1)) mq_64 ci_64 (List.mem_of_getElem? (i := 16) rfl)
theorem b_64_0 {d : Nat} {Q : (Option Value ⊕ Nat) → mi_H → Prop} (n sl : Nat) (f : Nat → mi_C) {l1 : Nat} {l2 : Int32} {l3 : Int64} {l4 : Nat} {o5 : Option Value} {fs6 : List Value} (h7 : f l1 = .inr (0, fs6)) (h8 : l1 < n) (h9 : mi_W d 65 0 (mi_en 4 [.ref l1, .int l2, .long l3]) [] (n, sl, f) (mi_Kc d 64 6 [some (.ref l1), some (.int l2), some (.long l3), none, some (.ref l4), o5] [.int 0, .ref l4] Q)) : mi_W (d + 1) 64 0 [some (.ref l1), some (.int l2), some (.long l3), none, some (.ref l4), o5] [] (n, sl, f) Q := by
  refine w_aload cd_64_0 rfl ?_
  refine w_iconst (v := 0) cd_64_2 (by decide) ?_
  refine w_aload_n cd_64_3 rfl ?_
  refine w_iload_n cd_64_4 rfl ?_
  refine w_lload_n cd_64_5 rfl ?_
  exact w_invokevirtual cd_64_6 (show mt_m 18 29 = some (65, 0) by decide +kernel) (rest := [.int 0, .ref l4]) rfl (as := [.ref l1, .int l2, .long l3]) rfl h7 (Or.inl h8) ⟨Nat.le_of_ble_eq_true rfl, Nat.le_of_ble_eq_true rfl, Nat.le_of_ble_eq_true rfl⟩ h9
theorem b_64_9 {d : Nat} {Q : (Option Value ⊕ Nat) → mi_H → Prop} (n sl : Nat) (f : Nat → mi_C) {l1 : Nat} {l2 : Int32} {l3 : Int64} {l4 : Nat} {o5 : Option Value} {s6 : Int32} {s7 : Int32} {s8 : Nat} (m9 i9 : Nat) (g9 : Nat → Int64) (h10 : f s8 = .inl (3, m9, .inr (.inl g9))) (h11 : s8 < n) (h12 : mi_ix s7 m9 i9) (h13 : mi_W d 64 22 [some (.ref l1), some (.int l2), some (.long l3), none, some (.ref l4), o5] [] (n, sl, (va_up f s8 (.inl (3, m9, .inr (.inl (vp_updL g9 i9 ((s6 : Int32).toInt64))))))) Q) : mi_W d 64 9 [some (.ref l1), some (.int l2), some (.long l3), none, some (.ref l4), o5] [.int s6, .int s7, .ref s8] (n, sl, f) Q := by
  refine w_i2l cd_64_9 ?_
  refine w_lastore cd_64_10 h10 h11 h12 ?_
  exact w_goto cd_64_11 (by decide) h13
theorem b_64_14 {d : Nat} {Q : (Option Value ⊕ Nat) → mi_H → Prop} (n sl : Nat) (f : Nat → mi_C) {l1 : Nat} {l2 : Int32} {l3 : Int64} {l4 : Nat} {o5 : Option Value} {s6 : Nat} (h7 : Q (.inl (some (.int 1))) (n, sl, f)) : mi_W d 64 14 [some (.ref l1), some (.int l2), some (.long l3), none, some (.ref l4), o5] [.ref s6] (n, sl, f) Q := by
  refine w_astore (ls' := [some (.ref l1), some (.int l2), some (.long l3), none, some (.ref l4), some (.ref s6)]) cd_64_14 (Nat.le_of_ble_eq_true rfl) rfl ?_
  refine w_iconst (v := 1) cd_64_16 (by decide) ?_
  exact w_ireturn_i cd_64_17 (by decide +kernel) h7
theorem b_64_18 {d : Nat} {Q : (Option Value ⊕ Nat) → mi_H → Prop} (n sl : Nat) (f : Nat → mi_C) {l1 : Nat} {l2 : Int32} {l3 : Int64} {l4 : Nat} {o5 : Option Value} {s6 : Nat} (h7 : Q (.inl (some (.int 2))) (n, sl, f)) : mi_W d 64 18 [some (.ref l1), some (.int l2), some (.long l3), none, some (.ref l4), o5] [.ref s6] (n, sl, f) Q := by
  refine w_astore (ls' := [some (.ref l1), some (.int l2), some (.long l3), none, some (.ref l4), some (.ref s6)]) cd_64_18 (Nat.le_of_ble_eq_true rfl) rfl ?_
  refine w_iconst (v := 2) cd_64_20 (by decide) ?_
  exact w_ireturn_i cd_64_21 (by decide +kernel) h7
theorem b_64_22 {d : Nat} {Q : (Option Value ⊕ Nat) → mi_H → Prop} (n sl : Nat) (f : Nat → mi_C) {l1 : Nat} {l2 : Int32} {l3 : Int64} {l4 : Nat} {o5 : Option Value} (h6 : Q (.inl (some (.int 0))) (n, sl, f)) : mi_W d 64 22 [some (.ref l1), some (.int l2), some (.long l3), none, some (.ref l4), o5] [] (n, sl, f) Q := by
  refine w_iconst (v := 0) cd_64_22 (by decide) ?_
  exact w_ireturn_i cd_64_23 (by decide +kernel) h6
/-! MarloweHost.choose(IJ)I -/
set_option maxRecDepth 100000 in
theorem mq_65 : mt_q 65 = my_65 := rfl
set_option maxRecDepth 100000 in
theorem ci_65 : mt_inc 0 my_65.cd = true := by decide +kernel
theorem cd_65_0 : mt_cd 65 0 = some (.iload_n 1) := mt_cd_of (q := (0, .iload_n 1, 1)) mq_65 ci_65 (List.mem_of_getElem? (i := 0) rfl)
theorem cd_65_1 : mt_cd 65 1 = some (.ifCond .lt 9) := mt_cd_of (q := (1, .ifCond .lt 9, 3)) mq_65 ci_65 (List.mem_of_getElem? (i := 1) rfl)
theorem cd_65_4 : mt_cd 65 4 = some (.iload_n 1) := mt_cd_of (q := (4, .iload_n 1, 1)) mq_65 ci_65 (List.mem_of_getElem? (i := 2) rfl)
theorem cd_65_5 : mt_cd 65 5 = some (.bipush 8) := mt_cd_of (q := (5, .bipush 8, 2)) mq_65 ci_65 (List.mem_of_getElem? (i := 3) rfl)
theorem cd_65_7 : mt_cd 65 7 = some (.if_icmp .lt 13) := mt_cd_of (q := (7, .if_icmp .lt 13, 3)) mq_65 ci_65 (List.mem_of_getElem? (i := 4) rfl)
theorem cd_65_10 : mt_cd 65 10 = some (.new 123) := mt_cd_of (q := (10, .new 123, 3)) mq_65 ci_65 (List.mem_of_getElem? (i := 5) rfl)
theorem cd_65_13 : mt_cd 65 13 = some (.dup) := mt_cd_of (q := (13, .dup, 1)) mq_65 ci_65 (List.mem_of_getElem? (i := 6) rfl)
theorem cd_65_14 : mt_cd 65 14 = some (.ldc 141) := mt_cd_of (q := (14, .ldc 141, 2)) mq_65 ci_65 (List.mem_of_getElem? (i := 7) rfl)
theorem cd_65_16 : mt_cd 65 16 = some (.invokespecial 127) := mt_cd_of (q := (16, .invokespecial 127, 3)) mq_65 ci_65 (List.mem_of_getElem? (i := 8) rfl)
theorem cd_65_19 : mt_cd 65 19 = some (.athrow) := mt_cd_of (q := (19, .athrow, 1)) mq_65 ci_65 (List.mem_of_getElem? (i := 9) rfl)
theorem cd_65_20 : mt_cd 65 20 = some (.aload_n 0) := mt_cd_of (q := (20, .aload_n 0, 1)) mq_65 ci_65 (List.mem_of_getElem? (i := 10) rfl)
theorem cd_65_21 : mt_cd 65 21 = some (.invokevirtual 134) := mt_cd_of (q := (21, .invokevirtual 134, 3)) mq_65 ci_65 (List.mem_of_getElem? (i := 11) rfl)
theorem cd_65_24 : mt_cd 65 24 = some (.aload_n 0) := mt_cd_of (q := (24, .aload_n 0, 1)) mq_65 ci_65 (List.mem_of_getElem? (i := 12) rfl)
theorem cd_65_25 : mt_cd 65 25 = some (.getfield 42) := mt_cd_of (q := (25, .getfield 42, 3)) mq_65 ci_65 (List.mem_of_getElem? (i := 13) rfl)
theorem cd_65_28 : mt_cd 65 28 = some (.bipush 9) := mt_cd_of (q := (28, .bipush 9, 2)) mq_65 ci_65 (List.mem_of_getElem? (i := 14) rfl)
theorem cd_65_30 : mt_cd 65 30 = some (.iload_n 1) := mt_cd_of (q := (30, .iload_n 1, 1)) mq_65 ci_65 (List.mem_of_getElem? (i := 15) rfl)
theorem cd_65_31 : mt_cd 65 31 = some (.iconst (-1)) := mt_cd_of (q := (31, .iconst (-1), 1)) mq_65 ci_65 (List.mem_of_getElem? (i := 16) rfl)
theorem cd_65_32 : mt_cd 65 32 = some (.iconst (-1)) := mt_cd_of (q := (32, .iconst (-1), 1)) mq_65 ci_65 (List.mem_of_getElem? (i := 17) rfl)
theorem cd_65_33 : mt_cd 65 33 = some (.lload_n 2) := mt_cd_of (q := (33, .lload_n 2, 1)) mq_65 ci_65 (List.mem_of_getElem? (i := 18) rfl)
theorem cd_65_34 : mt_cd 65 34 = some (.invokevirtual 137) := mt_cd_of (q := (34, .invokevirtual 137, 3)) mq_65 ci_65 (List.mem_of_getElem? (i := 19) rfl)
theorem cd_65_37 : mt_cd 65 37 = some (.ireturn) := mt_cd_of (q := (37, .ireturn, 1)) mq_65 ci_65 (List.mem_of_getElem? (i := 20) rfl)
theorem b_65_0 {d : Nat} {Q : (Option Value ⊕ Nat) → mi_H → Prop} (n sl : Nat) (f : Nat → mi_C) {l1 : Nat} {l2 : Int32} {l3 : Int64} (h4 : l2 < (0 : Int32) → mi_W d 65 10 [some (.ref l1), some (.int l2), some (.long l3), none] [] (n, sl, f) Q) (h5 : ¬ (l2 < (0 : Int32)) → mi_W d 65 4 [some (.ref l1), some (.int l2), some (.long l3), none] [] (n, sl, f) Q) : mi_W d 65 0 [some (.ref l1), some (.int l2), some (.long l3), none] [] (n, sl, f) Q := by
  refine w_iload_n cd_65_0 rfl ?_
  exact w_iflt cd_65_1 (by decide) h4 h5
theorem b_65_4 {d : Nat} {Q : (Option Value ⊕ Nat) → mi_H → Prop} (n sl : Nat) (f : Nat → mi_C) {l1 : Nat} {l2 : Int32} {l3 : Int64} (h4 : l2 < 8 → mi_W d 65 20 [some (.ref l1), some (.int l2), some (.long l3), none] [] (n, sl, f) Q) (h5 : ¬ (l2 < 8) → mi_W d 65 10 [some (.ref l1), some (.int l2), some (.long l3), none] [] (n, sl, f) Q) : mi_W d 65 4 [some (.ref l1), some (.int l2), some (.long l3), none] [] (n, sl, f) Q := by
  refine w_iload_n cd_65_4 rfl ?_
  refine w_bipush (v := 8) cd_65_5 (by decide) ?_
  exact w_if_icmplt cd_65_7 (by decide) h4 h5
theorem b_65_10 {d : Nat} {Q : (Option Value ⊕ Nat) → mi_H → Prop} (n sl : Nat) (f : Nat → mi_C) {l1 : Nat} {l2 : Int32} {l3 : Int64} {h' : mi_H} (h4 : mi_t 65 10 (.new 123) [] (n, sl, f) = some h') (h5 : Q (.inr n) h') : mi_W d 65 10 [some (.ref l1), some (.int l2), some (.long l3), none] [] (n, sl, f) Q := by
  exact w_throw cd_65_10 (show mt_c 0 123 = some 15 by decide +kernel) (by decide) h4 h5
theorem b_65_20 {d : Nat} {Q : (Option Value ⊕ Nat) → mi_H → Prop} (n sl : Nat) (f : Nat → mi_C) {l1 : Nat} {l2 : Int32} {l3 : Int64} {fs4 : List Value} (h5 : f l1 = .inr (0, fs4)) (h6 : l1 < n) (h7 : mi_W d 62 0 (mi_en 1 [.ref l1]) [] (n, sl, f) (mi_Kc d 65 21 [some (.ref l1), some (.int l2), some (.long l3), none] [] Q)) : mi_W (d + 1) 65 20 [some (.ref l1), some (.int l2), some (.long l3), none] [] (n, sl, f) Q := by
  refine w_aload_n cd_65_20 rfl ?_
  exact w_invokevirtual cd_65_21 (show mt_m 0 134 = some (62, 0) by decide +kernel) (rest := []) rfl (as := [.ref l1]) rfl h5 (Or.inl h6) ⟨Nat.le_of_ble_eq_true rfl, Nat.le_of_ble_eq_true rfl, Nat.le_of_ble_eq_true rfl⟩ h7
theorem b_65_24 {d : Nat} {Q : (Option Value ⊕ Nat) → mi_H → Prop} (n sl : Nat) (f : Nat → mi_C) {l1 : Nat} {l2 : Int32} {l3 : Int64} {fs4 : List Value} {x7 : Nat} {fs9 : List Value} (h5 : f l1 = .inr (0, fs4)) (h6 : l1 < n) (h8 : fs4[4]? = some (.ref x7)) (h10 : f x7 = .inr (6, fs9)) (h11 : x7 < n) (h12 : mi_W d 63 0 (mi_en 7 [.ref x7, .int 9, .int l2, .int (-1), .int (-1), .long l3]) [] (n, sl, f) (mi_Kc d 65 34 [some (.ref l1), some (.int l2), some (.long l3), none] [] Q)) : mi_W (d + 1) 65 24 [some (.ref l1), some (.int l2), some (.long l3), none] [] (n, sl, f) Q := by
  refine w_aload_n cd_65_24 rfl ?_
  refine w_getfield cd_65_25 (show mt_f 0 42 = some (0, 4) by decide +kernel) h5 h6 h8 ?_
  refine w_bipush (v := 9) cd_65_28 (by decide) ?_
  refine w_iload_n cd_65_30 rfl ?_
  refine w_iconst (v := (-1)) cd_65_31 (by decide) ?_
  refine w_iconst (v := (-1)) cd_65_32 (by decide) ?_
  refine w_lload_n cd_65_33 rfl ?_
  exact w_invokevirtual cd_65_34 (show mt_m 0 137 = some (63, 0) by decide +kernel) (rest := []) rfl (as := [.ref x7, .int 9, .int l2, .int (-1), .int (-1), .long l3]) rfl h10 (Or.inl h11) ⟨Nat.le_of_ble_eq_true rfl, Nat.le_of_ble_eq_true rfl, Nat.le_of_ble_eq_true rfl⟩ h12
theorem b_65_37 {d : Nat} {Q : (Option Value ⊕ Nat) → mi_H → Prop} (n sl : Nat) (f : Nat → mi_C) {l1 : Nat} {l2 : Int32} {l3 : Int64} {s4 : Int32} (h5 : Q (.inl (some (.int s4))) (n, sl, f)) : mi_W d 65 37 [some (.ref l1), some (.int l2), some (.long l3), none] [.int s4] (n, sl, f) Q := by
  exact w_ireturn_i cd_65_37 (by decide +kernel) h5
/-! MarloweHostLaw.remind(LMarloweHost;[J)I -/
set_option maxRecDepth 100000 in
theorem mq_66 : mt_q 66 = my_66 := rfl
set_option maxRecDepth 100000 in
theorem ci_66 : mt_inc 0 my_66.cd = true := by decide +kernel
theorem cd_66_0 : mt_cd 66 0 = some (.aload_n 1) := mt_cd_of (q := (0, .aload_n 1, 1)) mq_66 ci_66 (List.mem_of_getElem? (i := 0) rfl)
theorem cd_66_1 : mt_cd 66 1 = some (.iconst 0) := mt_cd_of (q := (1, .iconst 0, 1)) mq_66 ci_66 (List.mem_of_getElem? (i := 1) rfl)
theorem cd_66_2 : mt_cd 66 2 = some (.aload_n 0) := mt_cd_of (q := (2, .aload_n 0, 1)) mq_66 ci_66 (List.mem_of_getElem? (i := 2) rfl)
theorem cd_66_3 : mt_cd 66 3 = some (.invokevirtual 33) := mt_cd_of (q := (3, .invokevirtual 33, 3)) mq_66 ci_66 (List.mem_of_getElem? (i := 3) rfl)
theorem cd_66_6 : mt_cd 66 6 = some (.i2l) := mt_cd_of (q := (6, .i2l, 1)) mq_66 ci_66 (List.mem_of_getElem? (i := 4) rfl)
theorem cd_66_7 : mt_cd 66 7 = some (.lastore) := mt_cd_of (q := (7, .lastore, 1)) mq_66 ci_66 (List.mem_of_getElem? (i := 5) rfl)
theorem cd_66_8 : mt_cd 66 8 = some (.goto 6) := mt_cd_of (q := (8, .goto 6, 3)) mq_66 ci_66 (List.mem_of_getElem? (i := 6) rfl)
theorem cd_66_11 : mt_cd 66 11 = some (.astore_n 2) := mt_cd_of (q := (11, .astore_n 2, 1)) mq_66 ci_66 (List.mem_of_getElem? (i := 7) rfl)
theorem cd_66_12 : mt_cd 66 12 = some (.iconst 1) := mt_cd_of (q := (12, .iconst 1, 1)) mq_66 ci_66 (List.mem_of_getElem? (i := 8) rfl)
theorem cd_66_13 : mt_cd 66 13 = some (.ireturn) := mt_cd_of (q := (13, .ireturn, 1)) mq_66 ci_66 (List.mem_of_getElem? (i := 9) rfl)
theorem cd_66_14 : mt_cd 66 14 = some (.iconst 0) := mt_cd_of (q := (14, .iconst 0, 1)) mq_66 ci_66 (List.mem_of_getElem? (i := 10) rfl)
theorem cd_66_15 : mt_cd 66 15 = some (.ireturn) := mt_cd_of (q := (15, .ireturn, 1)) mq_66 ci_66 (List.mem_of_getElem? (i := 11) rfl)
theorem b_66_0 {d : Nat} {Q : (Option Value ⊕ Nat) → mi_H → Prop} (n sl : Nat) (f : Nat → mi_C) {l1 : Nat} {l2 : Nat} {o3 : Option Value} {fs4 : List Value} (h5 : f l1 = .inr (0, fs4)) (h6 : l1 < n) (h7 : mi_W d 67 0 (mi_en 1 [.ref l1]) [] (n, sl, f) (mi_Kc d 66 3 [some (.ref l1), some (.ref l2), o3] [.int 0, .ref l2] Q)) : mi_W (d + 1) 66 0 [some (.ref l1), some (.ref l2), o3] [] (n, sl, f) Q := by
  refine w_aload_n cd_66_0 rfl ?_
  refine w_iconst (v := 0) cd_66_1 (by decide) ?_
  refine w_aload_n cd_66_2 rfl ?_
  exact w_invokevirtual cd_66_3 (show mt_m 18 33 = some (67, 0) by decide +kernel) (rest := [.int 0, .ref l2]) rfl (as := [.ref l1]) rfl h5 (Or.inl h6) ⟨Nat.le_of_ble_eq_true rfl, Nat.le_of_ble_eq_true rfl, Nat.le_of_ble_eq_true rfl⟩ h7
theorem b_66_6 {d : Nat} {Q : (Option Value ⊕ Nat) → mi_H → Prop} (n sl : Nat) (f : Nat → mi_C) {l1 : Nat} {l2 : Nat} {o3 : Option Value} {s4 : Int32} {s5 : Int32} {s6 : Nat} (m7 i7 : Nat) (g7 : Nat → Int64) (h8 : f s6 = .inl (3, m7, .inr (.inl g7))) (h9 : s6 < n) (h10 : mi_ix s5 m7 i7) (h11 : mi_W d 66 14 [some (.ref l1), some (.ref l2), o3] [] (n, sl, (va_up f s6 (.inl (3, m7, .inr (.inl (vp_updL g7 i7 ((s4 : Int32).toInt64))))))) Q) : mi_W d 66 6 [some (.ref l1), some (.ref l2), o3] [.int s4, .int s5, .ref s6] (n, sl, f) Q := by
  refine w_i2l cd_66_6 ?_
  refine w_lastore cd_66_7 h8 h9 h10 ?_
  exact w_goto cd_66_8 (by decide) h11
theorem b_66_11 {d : Nat} {Q : (Option Value ⊕ Nat) → mi_H → Prop} (n sl : Nat) (f : Nat → mi_C) {l1 : Nat} {l2 : Nat} {o3 : Option Value} {s4 : Nat} (h5 : Q (.inl (some (.int 1))) (n, sl, f)) : mi_W d 66 11 [some (.ref l1), some (.ref l2), o3] [.ref s4] (n, sl, f) Q := by
  refine w_astore_n (ls' := [some (.ref l1), some (.ref l2), some (.ref s4)]) cd_66_11 (Nat.le_of_ble_eq_true rfl) rfl ?_
  refine w_iconst (v := 1) cd_66_12 (by decide) ?_
  exact w_ireturn_i cd_66_13 (by decide +kernel) h5
theorem b_66_14 {d : Nat} {Q : (Option Value ⊕ Nat) → mi_H → Prop} (n sl : Nat) (f : Nat → mi_C) {l1 : Nat} {l2 : Nat} {o3 : Option Value} (h4 : Q (.inl (some (.int 0))) (n, sl, f)) : mi_W d 66 14 [some (.ref l1), some (.ref l2), o3] [] (n, sl, f) Q := by
  refine w_iconst (v := 0) cd_66_14 (by decide) ?_
  exact w_ireturn_i cd_66_15 (by decide +kernel) h4
/-! MarloweHost.remind()I -/
set_option maxRecDepth 100000 in
theorem mq_67 : mt_q 67 = my_67 := rfl
set_option maxRecDepth 100000 in
theorem ci_67 : mt_inc 0 my_67.cd = true := by decide +kernel
theorem cd_67_0 : mt_cd 67 0 = some (.aload_n 0) := mt_cd_of (q := (0, .aload_n 0, 1)) mq_67 ci_67 (List.mem_of_getElem? (i := 0) rfl)
theorem cd_67_1 : mt_cd 67 1 = some (.invokevirtual 134) := mt_cd_of (q := (1, .invokevirtual 134, 3)) mq_67 ci_67 (List.mem_of_getElem? (i := 1) rfl)
theorem cd_67_4 : mt_cd 67 4 = some (.aload_n 0) := mt_cd_of (q := (4, .aload_n 0, 1)) mq_67 ci_67 (List.mem_of_getElem? (i := 2) rfl)
theorem cd_67_5 : mt_cd 67 5 = some (.getfield 42) := mt_cd_of (q := (5, .getfield 42, 3)) mq_67 ci_67 (List.mem_of_getElem? (i := 3) rfl)
theorem cd_67_8 : mt_cd 67 8 = some (.bipush 10) := mt_cd_of (q := (8, .bipush 10, 2)) mq_67 ci_67 (List.mem_of_getElem? (i := 4) rfl)
theorem cd_67_10 : mt_cd 67 10 = some (.iconst (-1)) := mt_cd_of (q := (10, .iconst (-1), 1)) mq_67 ci_67 (List.mem_of_getElem? (i := 5) rfl)
theorem cd_67_11 : mt_cd 67 11 = some (.iconst (-1)) := mt_cd_of (q := (11, .iconst (-1), 1)) mq_67 ci_67 (List.mem_of_getElem? (i := 6) rfl)
theorem cd_67_12 : mt_cd 67 12 = some (.iconst (-1)) := mt_cd_of (q := (12, .iconst (-1), 1)) mq_67 ci_67 (List.mem_of_getElem? (i := 7) rfl)
theorem cd_67_13 : mt_cd 67 13 = some (.lconst 0) := mt_cd_of (q := (13, .lconst 0, 1)) mq_67 ci_67 (List.mem_of_getElem? (i := 8) rfl)
theorem cd_67_14 : mt_cd 67 14 = some (.invokevirtual 137) := mt_cd_of (q := (14, .invokevirtual 137, 3)) mq_67 ci_67 (List.mem_of_getElem? (i := 9) rfl)
theorem cd_67_17 : mt_cd 67 17 = some (.ireturn) := mt_cd_of (q := (17, .ireturn, 1)) mq_67 ci_67 (List.mem_of_getElem? (i := 10) rfl)
theorem b_67_0 {d : Nat} {Q : (Option Value ⊕ Nat) → mi_H → Prop} (n sl : Nat) (f : Nat → mi_C) {l1 : Nat} {fs2 : List Value} (h3 : f l1 = .inr (0, fs2)) (h4 : l1 < n) (h5 : mi_W d 62 0 (mi_en 1 [.ref l1]) [] (n, sl, f) (mi_Kc d 67 1 [some (.ref l1)] [] Q)) : mi_W (d + 1) 67 0 [some (.ref l1)] [] (n, sl, f) Q := by
  refine w_aload_n cd_67_0 rfl ?_
  exact w_invokevirtual cd_67_1 (show mt_m 0 134 = some (62, 0) by decide +kernel) (rest := []) rfl (as := [.ref l1]) rfl h3 (Or.inl h4) ⟨Nat.le_of_ble_eq_true rfl, Nat.le_of_ble_eq_true rfl, Nat.le_of_ble_eq_true rfl⟩ h5
theorem b_67_4 {d : Nat} {Q : (Option Value ⊕ Nat) → mi_H → Prop} (n sl : Nat) (f : Nat → mi_C) {l1 : Nat} {fs2 : List Value} {x5 : Nat} {fs7 : List Value} (h3 : f l1 = .inr (0, fs2)) (h4 : l1 < n) (h6 : fs2[4]? = some (.ref x5)) (h8 : f x5 = .inr (6, fs7)) (h9 : x5 < n) (h10 : mi_W d 63 0 (mi_en 7 [.ref x5, .int 10, .int (-1), .int (-1), .int (-1), .long 0]) [] (n, sl, f) (mi_Kc d 67 14 [some (.ref l1)] [] Q)) : mi_W (d + 1) 67 4 [some (.ref l1)] [] (n, sl, f) Q := by
  refine w_aload_n cd_67_4 rfl ?_
  refine w_getfield cd_67_5 (show mt_f 0 42 = some (0, 4) by decide +kernel) h3 h4 h6 ?_
  refine w_bipush (v := 10) cd_67_8 (by decide) ?_
  refine w_iconst (v := (-1)) cd_67_10 (by decide) ?_
  refine w_iconst (v := (-1)) cd_67_11 (by decide) ?_
  refine w_iconst (v := (-1)) cd_67_12 (by decide) ?_
  refine w_lconst (lv := 0) cd_67_13 (by decide) ?_
  exact w_invokevirtual cd_67_14 (show mt_m 0 137 = some (63, 0) by decide +kernel) (rest := []) rfl (as := [.ref x5, .int 10, .int (-1), .int (-1), .int (-1), .long 0]) rfl h8 (Or.inl h9) ⟨Nat.le_of_ble_eq_true rfl, Nat.le_of_ble_eq_true rfl, Nat.le_of_ble_eq_true rfl⟩ h10
theorem b_67_17 {d : Nat} {Q : (Option Value ⊕ Nat) → mi_H → Prop} (n sl : Nat) (f : Nat → mi_C) {l1 : Nat} {s2 : Int32} (h3 : Q (.inl (some (.int s2))) (n, sl, f)) : mi_W d 67 17 [some (.ref l1)] [.int s2] (n, sl, f) Q := by
  exact w_ireturn_i cd_67_17 (by decide +kernel) h3
/-! MarloweHostLaw.apply(LMarloweHost;JJ[J)I -/
set_option maxRecDepth 100000 in
theorem mq_68 : mt_q 68 = my_68 := rfl
set_option maxRecDepth 100000 in
theorem ci_68 : mt_inc 0 my_68.cd = true := by decide +kernel
theorem cd_68_0 : mt_cd 68 0 = some (.aload 5) := mt_cd_of (q := (0, .aload 5, 2)) mq_68 ci_68 (List.mem_of_getElem? (i := 0) rfl)
theorem cd_68_2 : mt_cd 68 2 = some (.iconst 0) := mt_cd_of (q := (2, .iconst 0, 1)) mq_68 ci_68 (List.mem_of_getElem? (i := 1) rfl)
theorem cd_68_3 : mt_cd 68 3 = some (.aload_n 0) := mt_cd_of (q := (3, .aload_n 0, 1)) mq_68 ci_68 (List.mem_of_getElem? (i := 2) rfl)
theorem cd_68_4 : mt_cd 68 4 = some (.lload_n 1) := mt_cd_of (q := (4, .lload_n 1, 1)) mq_68 ci_68 (List.mem_of_getElem? (i := 3) rfl)
theorem cd_68_5 : mt_cd 68 5 = some (.lload_n 3) := mt_cd_of (q := (5, .lload_n 3, 1)) mq_68 ci_68 (List.mem_of_getElem? (i := 4) rfl)
theorem cd_68_6 : mt_cd 68 6 = some (.invokevirtual 37) := mt_cd_of (q := (6, .invokevirtual 37, 3)) mq_68 ci_68 (List.mem_of_getElem? (i := 5) rfl)
theorem cd_68_9 : mt_cd 68 9 = some (.i2l) := mt_cd_of (q := (9, .i2l, 1)) mq_68 ci_68 (List.mem_of_getElem? (i := 6) rfl)
theorem cd_68_10 : mt_cd 68 10 = some (.lastore) := mt_cd_of (q := (10, .lastore, 1)) mq_68 ci_68 (List.mem_of_getElem? (i := 7) rfl)
theorem cd_68_11 : mt_cd 68 11 = some (.goto 7) := mt_cd_of (q := (11, .goto 7, 3)) mq_68 ci_68 (List.mem_of_getElem? (i := 8) rfl)
theorem cd_68_14 : mt_cd 68 14 = some (.astore 6) := mt_cd_of (q := (14, .astore 6, 2)) mq_68 ci_68 (List.mem_of_getElem? (i := 9) rfl)
theorem cd_68_16 : mt_cd 68 16 = some (.iconst 1) := mt_cd_of (q := (16, .iconst 1, 1)) mq_68 ci_68 (List.mem_of_getElem? (i := 10) rfl)
theorem cd_68_17 : mt_cd 68 17 = some (.ireturn) := mt_cd_of (q := (17, .ireturn, 1)) mq_68 ci_68 (List.mem_of_getElem? (i := 11) rfl)
theorem cd_68_18 : mt_cd 68 18 = some (.iconst 0) := mt_cd_of (q := (18, .iconst 0, 1)) mq_68 ci_68 (List.mem_of_getElem? (i := 12) rfl)
theorem cd_68_19 : mt_cd 68 19 = some (.ireturn) := mt_cd_of (q := (19, .ireturn, 1)) mq_68 ci_68 (List.mem_of_getElem? (i := 13) rfl)
theorem b_68_0 {d : Nat} {Q : (Option Value ⊕ Nat) → mi_H → Prop} (n sl : Nat) (f : Nat → mi_C) {l1 : Nat} {l2 : Int64} {l3 : Int64} {l4 : Nat} {o5 : Option Value} {fs6 : List Value} (h7 : f l1 = .inr (0, fs6)) (h8 : l1 < n) (h9 : mi_W d 69 0 (mi_en 6 [.ref l1, .long l2, .long l3]) [] (n, sl, f) (mi_Kc d 68 6 [some (.ref l1), some (.long l2), none, some (.long l3), none, some (.ref l4), o5] [.int 0, .ref l4] Q)) : mi_W (d + 1) 68 0 [some (.ref l1), some (.long l2), none, some (.long l3), none, some (.ref l4), o5] [] (n, sl, f) Q := by
  refine w_aload cd_68_0 rfl ?_
  refine w_iconst (v := 0) cd_68_2 (by decide) ?_
  refine w_aload_n cd_68_3 rfl ?_
  refine w_lload_n cd_68_4 rfl ?_
  refine w_lload_n cd_68_5 rfl ?_
  exact w_invokevirtual cd_68_6 (show mt_m 18 37 = some (69, 0) by decide +kernel) (rest := [.int 0, .ref l4]) rfl (as := [.ref l1, .long l2, .long l3]) rfl h7 (Or.inl h8) ⟨Nat.le_of_ble_eq_true rfl, Nat.le_of_ble_eq_true rfl, Nat.le_of_ble_eq_true rfl⟩ h9
theorem b_68_9 {d : Nat} {Q : (Option Value ⊕ Nat) → mi_H → Prop} (n sl : Nat) (f : Nat → mi_C) {l1 : Nat} {l2 : Int64} {l3 : Int64} {l4 : Nat} {o5 : Option Value} {s6 : Int32} {s7 : Int32} {s8 : Nat} (m9 i9 : Nat) (g9 : Nat → Int64) (h10 : f s8 = .inl (3, m9, .inr (.inl g9))) (h11 : s8 < n) (h12 : mi_ix s7 m9 i9) (h13 : mi_W d 68 18 [some (.ref l1), some (.long l2), none, some (.long l3), none, some (.ref l4), o5] [] (n, sl, (va_up f s8 (.inl (3, m9, .inr (.inl (vp_updL g9 i9 ((s6 : Int32).toInt64))))))) Q) : mi_W d 68 9 [some (.ref l1), some (.long l2), none, some (.long l3), none, some (.ref l4), o5] [.int s6, .int s7, .ref s8] (n, sl, f) Q := by
  refine w_i2l cd_68_9 ?_
  refine w_lastore cd_68_10 h10 h11 h12 ?_
  exact w_goto cd_68_11 (by decide) h13
theorem b_68_14 {d : Nat} {Q : (Option Value ⊕ Nat) → mi_H → Prop} (n sl : Nat) (f : Nat → mi_C) {l1 : Nat} {l2 : Int64} {l3 : Int64} {l4 : Nat} {o5 : Option Value} {s6 : Nat} (h7 : Q (.inl (some (.int 1))) (n, sl, f)) : mi_W d 68 14 [some (.ref l1), some (.long l2), none, some (.long l3), none, some (.ref l4), o5] [.ref s6] (n, sl, f) Q := by
  refine w_astore (ls' := [some (.ref l1), some (.long l2), none, some (.long l3), none, some (.ref l4), some (.ref s6)]) cd_68_14 (Nat.le_of_ble_eq_true rfl) rfl ?_
  refine w_iconst (v := 1) cd_68_16 (by decide) ?_
  exact w_ireturn_i cd_68_17 (by decide +kernel) h7
theorem b_68_18 {d : Nat} {Q : (Option Value ⊕ Nat) → mi_H → Prop} (n sl : Nat) (f : Nat → mi_C) {l1 : Nat} {l2 : Int64} {l3 : Int64} {l4 : Nat} {o5 : Option Value} (h6 : Q (.inl (some (.int 0))) (n, sl, f)) : mi_W d 68 18 [some (.ref l1), some (.long l2), none, some (.long l3), none, some (.ref l4), o5] [] (n, sl, f) Q := by
  refine w_iconst (v := 0) cd_68_18 (by decide) ?_
  exact w_ireturn_i cd_68_19 (by decide +kernel) h6
/-! MarloweHost.apply(JJ)I -/
set_option maxRecDepth 100000 in
theorem mq_69 : mt_q 69 = my_69 := rfl
set_option maxRecDepth 100000 in
theorem ci_69 : mt_inc 0 my_69.cd = true := by decide +kernel
theorem cd_69_0 : mt_cd 69 0 = some (.aload_n 0) := mt_cd_of (q := (0, .aload_n 0, 1)) mq_69 ci_69 (List.mem_of_getElem? (i := 0) rfl)
theorem cd_69_1 : mt_cd 69 1 = some (.invokevirtual 143) := mt_cd_of (q := (1, .invokevirtual 143, 3)) mq_69 ci_69 (List.mem_of_getElem? (i := 1) rfl)
theorem cd_69_4 : mt_cd 69 4 = some (.aload_n 0) := mt_cd_of (q := (4, .aload_n 0, 1)) mq_69 ci_69 (List.mem_of_getElem? (i := 2) rfl)
theorem cd_69_5 : mt_cd 69 5 = some (.getfield 71) := mt_cd_of (q := (5, .getfield 71, 3)) mq_69 ci_69 (List.mem_of_getElem? (i := 3) rfl)
theorem cd_69_8 : mt_cd 69 8 = some (.aload_n 0) := mt_cd_of (q := (8, .aload_n 0, 1)) mq_69 ci_69 (List.mem_of_getElem? (i := 4) rfl)
theorem cd_69_9 : mt_cd 69 9 = some (.getfield 67) := mt_cd_of (q := (9, .getfield 67, 3)) mq_69 ci_69 (List.mem_of_getElem? (i := 5) rfl)
theorem cd_69_12 : mt_cd 69 12 = some (.invokevirtual 146) := mt_cd_of (q := (12, .invokevirtual 146, 3)) mq_69 ci_69 (List.mem_of_getElem? (i := 6) rfl)
theorem cd_69_15 : mt_cd 69 15 = some (.aload_n 0) := mt_cd_of (q := (15, .aload_n 0, 1)) mq_69 ci_69 (List.mem_of_getElem? (i := 7) rfl)
theorem cd_69_16 : mt_cd 69 16 = some (.getfield 51) := mt_cd_of (q := (16, .getfield 51, 3)) mq_69 ci_69 (List.mem_of_getElem? (i := 8) rfl)
theorem cd_69_19 : mt_cd 69 19 = some (.aload_n 0) := mt_cd_of (q := (19, .aload_n 0, 1)) mq_69 ci_69 (List.mem_of_getElem? (i := 9) rfl)
theorem cd_69_20 : mt_cd 69 20 = some (.getfield 71) := mt_cd_of (q := (20, .getfield 71, 3)) mq_69 ci_69 (List.mem_of_getElem? (i := 10) rfl)
theorem cd_69_23 : mt_cd 69 23 = some (.aload_n 0) := mt_cd_of (q := (23, .aload_n 0, 1)) mq_69 ci_69 (List.mem_of_getElem? (i := 11) rfl)
theorem cd_69_24 : mt_cd 69 24 = some (.getfield 42) := mt_cd_of (q := (24, .getfield 42, 3)) mq_69 ci_69 (List.mem_of_getElem? (i := 12) rfl)
theorem cd_69_27 : mt_cd 69 27 = some (.lload_n 1) := mt_cd_of (q := (27, .lload_n 1, 1)) mq_69 ci_69 (List.mem_of_getElem? (i := 13) rfl)
theorem cd_69_28 : mt_cd 69 28 = some (.lload_n 3) := mt_cd_of (q := (28, .lload_n 3, 1)) mq_69 ci_69 (List.mem_of_getElem? (i := 14) rfl)
theorem cd_69_29 : mt_cd 69 29 = some (.invokevirtual 150) := mt_cd_of (q := (29, .invokevirtual 150, 3)) mq_69 ci_69 (List.mem_of_getElem? (i := 15) rfl)
theorem cd_69_32 : mt_cd 69 32 = some (.istore 5) := mt_cd_of (q := (32, .istore 5, 2)) mq_69 ci_69 (List.mem_of_getElem? (i := 16) rfl)
theorem cd_69_34 : mt_cd 69 34 = some (.iload 5) := mt_cd_of (q := (34, .iload 5, 2)) mq_69 ci_69 (List.mem_of_getElem? (i := 17) rfl)
theorem cd_69_36 : mt_cd 69 36 = some (.ifCond .ne 14) := mt_cd_of (q := (36, .ifCond .ne 14, 3)) mq_69 ci_69 (List.mem_of_getElem? (i := 18) rfl)
theorem cd_69_39 : mt_cd 69 39 = some (.aload_n 0) := mt_cd_of (q := (39, .aload_n 0, 1)) mq_69 ci_69 (List.mem_of_getElem? (i := 19) rfl)
theorem cd_69_40 : mt_cd 69 40 = some (.getfield 67) := mt_cd_of (q := (40, .getfield 67, 3)) mq_69 ci_69 (List.mem_of_getElem? (i := 20) rfl)
theorem cd_69_43 : mt_cd 69 43 = some (.aload_n 0) := mt_cd_of (q := (43, .aload_n 0, 1)) mq_69 ci_69 (List.mem_of_getElem? (i := 21) rfl)
theorem cd_69_44 : mt_cd 69 44 = some (.getfield 71) := mt_cd_of (q := (44, .getfield 71, 3)) mq_69 ci_69 (List.mem_of_getElem? (i := 22) rfl)
theorem cd_69_47 : mt_cd 69 47 = some (.invokevirtual 146) := mt_cd_of (q := (47, .invokevirtual 146, 3)) mq_69 ci_69 (List.mem_of_getElem? (i := 23) rfl)
theorem cd_69_50 : mt_cd 69 50 = some (.aload_n 0) := mt_cd_of (q := (50, .aload_n 0, 1)) mq_69 ci_69 (List.mem_of_getElem? (i := 24) rfl)
theorem cd_69_51 : mt_cd 69 51 = some (.getfield 42) := mt_cd_of (q := (51, .getfield 42, 3)) mq_69 ci_69 (List.mem_of_getElem? (i := 25) rfl)
theorem cd_69_54 : mt_cd 69 54 = some (.iconst 0) := mt_cd_of (q := (54, .iconst 0, 1)) mq_69 ci_69 (List.mem_of_getElem? (i := 26) rfl)
theorem cd_69_55 : mt_cd 69 55 = some (.putfield 91) := mt_cd_of (q := (55, .putfield 91, 3)) mq_69 ci_69 (List.mem_of_getElem? (i := 27) rfl)
theorem cd_69_58 : mt_cd 69 58 = some (.iload 5) := mt_cd_of (q := (58, .iload 5, 2)) mq_69 ci_69 (List.mem_of_getElem? (i := 28) rfl)
theorem cd_69_60 : mt_cd 69 60 = some (.ireturn) := mt_cd_of (q := (60, .ireturn, 1)) mq_69 ci_69 (List.mem_of_getElem? (i := 29) rfl)
theorem b_69_0 {d : Nat} {Q : (Option Value ⊕ Nat) → mi_H → Prop} (n sl : Nat) (f : Nat → mi_C) {l1 : Nat} {l2 : Int64} {l3 : Int64} {o4 : Option Value} {fs5 : List Value} (h6 : f l1 = .inr (0, fs5)) (h7 : l1 < n) (h8 : mi_W d 70 0 (mi_en 1 [.ref l1]) [] (n, sl, f) (mi_Kc d 69 1 [some (.ref l1), some (.long l2), none, some (.long l3), none, o4] [] Q)) : mi_W (d + 1) 69 0 [some (.ref l1), some (.long l2), none, some (.long l3), none, o4] [] (n, sl, f) Q := by
  refine w_aload_n cd_69_0 rfl ?_
  exact w_invokevirtual cd_69_1 (show mt_m 0 143 = some (70, 0) by decide +kernel) (rest := []) rfl (as := [.ref l1]) rfl h6 (Or.inl h7) ⟨Nat.le_of_ble_eq_true rfl, Nat.le_of_ble_eq_true rfl, Nat.le_of_ble_eq_true rfl⟩ h8
theorem b_69_4 {d : Nat} {Q : (Option Value ⊕ Nat) → mi_H → Prop} (n sl : Nat) (f : Nat → mi_C) {l1 : Nat} {l2 : Int64} {l3 : Int64} {o4 : Option Value} {fs5 : List Value} {x8 : Nat} {fs10 : List Value} {x13 : Nat} {fs15 : List Value} (h6 : f l1 = .inr (0, fs5)) (h7 : l1 < n) (h9 : fs5[8]? = some (.ref x8)) (h11 : f l1 = .inr (0, fs10)) (h12 : l1 < n) (h14 : fs10[7]? = some (.ref x13)) (h16 : f x8 = .inr (9, fs15)) (h17 : x8 < n) (h18 : mi_W d 71 0 (mi_en 2 [.ref x8, .ref x13]) [] (n, sl, f) (mi_Kc d 69 12 [some (.ref l1), some (.long l2), none, some (.long l3), none, o4] [] Q)) : mi_W (d + 1) 69 4 [some (.ref l1), some (.long l2), none, some (.long l3), none, o4] [] (n, sl, f) Q := by
  refine w_aload_n cd_69_4 rfl ?_
  refine w_getfield cd_69_5 (show mt_f 0 71 = some (0, 8) by decide +kernel) h6 h7 h9 ?_
  refine w_aload_n cd_69_8 rfl ?_
  refine w_getfield cd_69_9 (show mt_f 0 67 = some (0, 7) by decide +kernel) h11 h12 h14 ?_
  exact w_invokevirtual cd_69_12 (show mt_m 0 146 = some (71, 0) by decide +kernel) (rest := []) rfl (as := [.ref x8, .ref x13]) rfl h16 (Or.inl h17) ⟨Nat.le_of_ble_eq_true rfl, Nat.le_of_ble_eq_true rfl, Nat.le_of_ble_eq_true rfl⟩ h18
theorem b_69_15 {d : Nat} {Q : (Option Value ⊕ Nat) → mi_H → Prop} (n sl : Nat) (f : Nat → mi_C) {l1 : Nat} {l2 : Int64} {l3 : Int64} {o4 : Option Value} {fs5 : List Value} {x8 : Nat} {fs10 : List Value} {x13 : Nat} {fs15 : List Value} {x18 : Nat} {fs20 : List Value} (h6 : f l1 = .inr (0, fs5)) (h7 : l1 < n) (h9 : fs5[5]? = some (.ref x8)) (h11 : f l1 = .inr (0, fs10)) (h12 : l1 < n) (h14 : fs10[8]? = some (.ref x13)) (h16 : f l1 = .inr (0, fs15)) (h17 : l1 < n) (h19 : fs15[4]? = some (.ref x18)) (h21 : f x8 = .inr (7, fs20)) (h22 : x8 < n) (h23 : mi_W d 72 0 (mi_en 8 [.ref x8, .ref x13, .ref x18, .long l2, .long l3]) [] (n, sl, f) (mi_Kc d 69 29 [some (.ref l1), some (.long l2), none, some (.long l3), none, o4] [] Q)) : mi_W (d + 1) 69 15 [some (.ref l1), some (.long l2), none, some (.long l3), none, o4] [] (n, sl, f) Q := by
  refine w_aload_n cd_69_15 rfl ?_
  refine w_getfield cd_69_16 (show mt_f 0 51 = some (0, 5) by decide +kernel) h6 h7 h9 ?_
  refine w_aload_n cd_69_19 rfl ?_
  refine w_getfield cd_69_20 (show mt_f 0 71 = some (0, 8) by decide +kernel) h11 h12 h14 ?_
  refine w_aload_n cd_69_23 rfl ?_
  refine w_getfield cd_69_24 (show mt_f 0 42 = some (0, 4) by decide +kernel) h16 h17 h19 ?_
  refine w_lload_n cd_69_27 rfl ?_
  refine w_lload_n cd_69_28 rfl ?_
  exact w_invokevirtual cd_69_29 (show mt_m 0 150 = some (72, 0) by decide +kernel) (rest := []) rfl (as := [.ref x8, .ref x13, .ref x18, .long l2, .long l3]) rfl h21 (Or.inl h22) ⟨Nat.le_of_ble_eq_true rfl, Nat.le_of_ble_eq_true rfl, Nat.le_of_ble_eq_true rfl⟩ h23
theorem b_69_32 {d : Nat} {Q : (Option Value ⊕ Nat) → mi_H → Prop} (n sl : Nat) (f : Nat → mi_C) {l1 : Nat} {l2 : Int64} {l3 : Int64} {o4 : Option Value} {s5 : Int32} (h6 : ¬ s5 = (0 : Int32) → mi_W d 69 50 [some (.ref l1), some (.long l2), none, some (.long l3), none, some (.int s5)] [] (n, sl, f) Q) (h7 : ¬ (¬ s5 = (0 : Int32)) → mi_W d 69 39 [some (.ref l1), some (.long l2), none, some (.long l3), none, some (.int s5)] [] (n, sl, f) Q) : mi_W d 69 32 [some (.ref l1), some (.long l2), none, some (.long l3), none, o4] [.int s5] (n, sl, f) Q := by
  refine w_istore (ls' := [some (.ref l1), some (.long l2), none, some (.long l3), none, some (.int s5)]) cd_69_32 (Nat.le_of_ble_eq_true rfl) rfl ?_
  refine w_iload cd_69_34 rfl ?_
  exact w_ifne cd_69_36 (by decide) h6 h7
theorem b_69_39 {d : Nat} {Q : (Option Value ⊕ Nat) → mi_H → Prop} (n sl : Nat) (f : Nat → mi_C) {l1 : Nat} {l2 : Int64} {l3 : Int64} {l4 : Int32} {fs5 : List Value} {x8 : Nat} {fs10 : List Value} {x13 : Nat} {fs15 : List Value} (h6 : f l1 = .inr (0, fs5)) (h7 : l1 < n) (h9 : fs5[7]? = some (.ref x8)) (h11 : f l1 = .inr (0, fs10)) (h12 : l1 < n) (h14 : fs10[8]? = some (.ref x13)) (h16 : f x8 = .inr (9, fs15)) (h17 : x8 < n) (h18 : mi_W d 71 0 (mi_en 2 [.ref x8, .ref x13]) [] (n, sl, f) (mi_Kc d 69 47 [some (.ref l1), some (.long l2), none, some (.long l3), none, some (.int l4)] [] Q)) : mi_W (d + 1) 69 39 [some (.ref l1), some (.long l2), none, some (.long l3), none, some (.int l4)] [] (n, sl, f) Q := by
  refine w_aload_n cd_69_39 rfl ?_
  refine w_getfield cd_69_40 (show mt_f 0 67 = some (0, 7) by decide +kernel) h6 h7 h9 ?_
  refine w_aload_n cd_69_43 rfl ?_
  refine w_getfield cd_69_44 (show mt_f 0 71 = some (0, 8) by decide +kernel) h11 h12 h14 ?_
  exact w_invokevirtual cd_69_47 (show mt_m 0 146 = some (71, 0) by decide +kernel) (rest := []) rfl (as := [.ref x8, .ref x13]) rfl h16 (Or.inl h17) ⟨Nat.le_of_ble_eq_true rfl, Nat.le_of_ble_eq_true rfl, Nat.le_of_ble_eq_true rfl⟩ h18
theorem b_69_50 {d : Nat} {Q : (Option Value ⊕ Nat) → mi_H → Prop} (n sl : Nat) (f : Nat → mi_C) {l1 : Nat} {l2 : Int64} {l3 : Int64} {l4 : Int32} {fs5 : List Value} {x8 : Nat} {fs10 : List Value} (h6 : f l1 = .inr (0, fs5)) (h7 : l1 < n) (h9 : fs5[4]? = some (.ref x8)) (h11 : f x8 = .inr (6, fs10)) (h12 : x8 < n) (h13 : 5 < fs10.length) (h14 : Q (.inl (some (.int l4))) (n, sl, (va_up f x8 (.inr (6, fs10.set 5 (.int 0)))))) : mi_W d 69 50 [some (.ref l1), some (.long l2), none, some (.long l3), none, some (.int l4)] [] (n, sl, f) Q := by
  refine w_aload_n cd_69_50 rfl ?_
  refine w_getfield cd_69_51 (show mt_f 0 42 = some (0, 4) by decide +kernel) h6 h7 h9 ?_
  refine w_iconst (v := 0) cd_69_54 (by decide) ?_
  refine w_putfield (w := .int 0) cd_69_55 (show mt_f 0 91 = some (6, 5) by decide +kernel) h11 h12 ⟨h13, rfl, Or.inl (by decide)⟩ ?_
  refine w_iload cd_69_58 rfl ?_
  exact w_ireturn_i cd_69_60 (by decide +kernel) h14
/-! MarloweHost.requireContract()V -/
set_option maxRecDepth 100000 in
theorem mq_70 : mt_q 70 = my_70 := rfl
set_option maxRecDepth 100000 in
theorem ci_70 : mt_inc 0 my_70.cd = true := by decide +kernel
theorem cd_70_0 : mt_cd 70 0 = some (.aload_n 0) := mt_cd_of (q := (0, .aload_n 0, 1)) mq_70 ci_70 (List.mem_of_getElem? (i := 0) rfl)
theorem cd_70_1 : mt_cd 70 1 = some (.getfield 94) := mt_cd_of (q := (1, .getfield 94, 3)) mq_70 ci_70 (List.mem_of_getElem? (i := 1) rfl)
theorem cd_70_4 : mt_cd 70 4 = some (.ifCond .ne 13) := mt_cd_of (q := (4, .ifCond .ne 13, 3)) mq_70 ci_70 (List.mem_of_getElem? (i := 2) rfl)
theorem cd_70_7 : mt_cd 70 7 = some (.new 253) := mt_cd_of (q := (7, .new 253, 3)) mq_70 ci_70 (List.mem_of_getElem? (i := 3) rfl)
theorem cd_70_10 : mt_cd 70 10 = some (.dup) := mt_cd_of (q := (10, .dup, 1)) mq_70 ci_70 (List.mem_of_getElem? (i := 4) rfl)
theorem cd_70_11 : mt_cd 70 11 = some (.ldc 255) := mt_cd_of (q := (11, .ldc 255, 2)) mq_70 ci_70 (List.mem_of_getElem? (i := 5) rfl)
theorem cd_70_13 : mt_cd 70 13 = some (.invokespecial 257) := mt_cd_of (q := (13, .invokespecial 257, 3)) mq_70 ci_70 (List.mem_of_getElem? (i := 6) rfl)
theorem cd_70_16 : mt_cd 70 16 = some (.athrow) := mt_cd_of (q := (16, .athrow, 1)) mq_70 ci_70 (List.mem_of_getElem? (i := 7) rfl)
theorem cd_70_17 : mt_cd 70 17 = some (.return_) := mt_cd_of (q := (17, .return_, 1)) mq_70 ci_70 (List.mem_of_getElem? (i := 8) rfl)
theorem b_70_0 {d : Nat} {Q : (Option Value ⊕ Nat) → mi_H → Prop} (n sl : Nat) (f : Nat → mi_C) {l1 : Nat} {fs2 : List Value} {x5 : Int32} (h3 : f l1 = .inr (0, fs2)) (h4 : l1 < n) (h6 : fs2[9]? = some (.int x5)) (h7 : ¬ x5 = (0 : Int32) → mi_W d 70 17 [some (.ref l1)] [] (n, sl, f) Q) (h8 : ¬ (¬ x5 = (0 : Int32)) → mi_W d 70 7 [some (.ref l1)] [] (n, sl, f) Q) : mi_W d 70 0 [some (.ref l1)] [] (n, sl, f) Q := by
  refine w_aload_n cd_70_0 rfl ?_
  refine w_getfield cd_70_1 (show mt_f 0 94 = some (0, 9) by decide +kernel) h3 h4 h6 ?_
  exact w_ifne cd_70_4 (by decide) h7 h8
theorem b_70_7 {d : Nat} {Q : (Option Value ⊕ Nat) → mi_H → Prop} (n sl : Nat) (f : Nat → mi_C) {l1 : Nat} {h' : mi_H} (h2 : mi_t 70 7 (.new 253) [] (n, sl, f) = some h') (h3 : Q (.inr n) h') : mi_W d 70 7 [some (.ref l1)] [] (n, sl, f) Q := by
  exact w_throw cd_70_7 (show mt_c 0 253 = some 16 by decide +kernel) (by decide) h2 h3
theorem b_70_17 {d : Nat} {Q : (Option Value ⊕ Nat) → mi_H → Prop} (n sl : Nat) (f : Nat → mi_C) {l1 : Nat} (h2 : Q (.inl none) (n, sl, f)) : mi_W d 70 17 [some (.ref l1)] [] (n, sl, f) Q := by
  exact w_return cd_70_17 (by decide +kernel) h2
/-! MarloweHost$Situation.copyFrom(LMarloweHost$Situation;)V -/
set_option maxRecDepth 100000 in
theorem mq_71 : mt_q 71 = my_71 := rfl
set_option maxRecDepth 100000 in
theorem ci_71 : mt_inc 0 my_71.cd = true := by decide +kernel
theorem cd_71_0 : mt_cd 71 0 = some (.aload_n 0) := mt_cd_of (q := (0, .aload_n 0, 1)) mq_71 ci_71 (List.mem_of_getElem? (i := 0) rfl)
theorem cd_71_1 : mt_cd 71 1 = some (.aload_n 1) := mt_cd_of (q := (1, .aload_n 1, 1)) mq_71 ci_71 (List.mem_of_getElem? (i := 1) rfl)
theorem cd_71_2 : mt_cd 71 2 = some (.getfield 21) := mt_cd_of (q := (2, .getfield 21, 3)) mq_71 ci_71 (List.mem_of_getElem? (i := 2) rfl)
theorem cd_71_5 : mt_cd 71 5 = some (.putfield 21) := mt_cd_of (q := (5, .putfield 21, 3)) mq_71 ci_71 (List.mem_of_getElem? (i := 3) rfl)
theorem cd_71_8 : mt_cd 71 8 = some (.aload_n 0) := mt_cd_of (q := (8, .aload_n 0, 1)) mq_71 ci_71 (List.mem_of_getElem? (i := 4) rfl)
theorem cd_71_9 : mt_cd 71 9 = some (.aload_n 1) := mt_cd_of (q := (9, .aload_n 1, 1)) mq_71 ci_71 (List.mem_of_getElem? (i := 5) rfl)
theorem cd_71_10 : mt_cd 71 10 = some (.getfield 25) := mt_cd_of (q := (10, .getfield 25, 3)) mq_71 ci_71 (List.mem_of_getElem? (i := 6) rfl)
theorem cd_71_13 : mt_cd 71 13 = some (.putfield 25) := mt_cd_of (q := (13, .putfield 25, 3)) mq_71 ci_71 (List.mem_of_getElem? (i := 7) rfl)
theorem cd_71_16 : mt_cd 71 16 = some (.aload_n 1) := mt_cd_of (q := (16, .aload_n 1, 1)) mq_71 ci_71 (List.mem_of_getElem? (i := 8) rfl)
theorem cd_71_17 : mt_cd 71 17 = some (.getfield 9) := mt_cd_of (q := (17, .getfield 9, 3)) mq_71 ci_71 (List.mem_of_getElem? (i := 9) rfl)
theorem cd_71_20 : mt_cd 71 20 = some (.iconst 0) := mt_cd_of (q := (20, .iconst 0, 1)) mq_71 ci_71 (List.mem_of_getElem? (i := 10) rfl)
theorem cd_71_21 : mt_cd 71 21 = some (.aload_n 0) := mt_cd_of (q := (21, .aload_n 0, 1)) mq_71 ci_71 (List.mem_of_getElem? (i := 11) rfl)
theorem cd_71_22 : mt_cd 71 22 = some (.getfield 9) := mt_cd_of (q := (22, .getfield 9, 3)) mq_71 ci_71 (List.mem_of_getElem? (i := 12) rfl)
theorem cd_71_25 : mt_cd 71 25 = some (.iconst 0) := mt_cd_of (q := (25, .iconst 0, 1)) mq_71 ci_71 (List.mem_of_getElem? (i := 13) rfl)
theorem cd_71_26 : mt_cd 71 26 = some (.bipush 32) := mt_cd_of (q := (26, .bipush 32, 2)) mq_71 ci_71 (List.mem_of_getElem? (i := 14) rfl)
theorem cd_71_28 : mt_cd 71 28 = some (.invokestatic 41) := mt_cd_of (q := (28, .invokestatic 41, 3)) mq_71 ci_71 (List.mem_of_getElem? (i := 15) rfl)
theorem cd_71_31 : mt_cd 71 31 = some (.aload_n 1) := mt_cd_of (q := (31, .aload_n 1, 1)) mq_71 ci_71 (List.mem_of_getElem? (i := 16) rfl)
theorem cd_71_32 : mt_cd 71 32 = some (.getfield 15) := mt_cd_of (q := (32, .getfield 15, 3)) mq_71 ci_71 (List.mem_of_getElem? (i := 17) rfl)
theorem cd_71_35 : mt_cd 71 35 = some (.iconst 0) := mt_cd_of (q := (35, .iconst 0, 1)) mq_71 ci_71 (List.mem_of_getElem? (i := 18) rfl)
theorem cd_71_36 : mt_cd 71 36 = some (.aload_n 0) := mt_cd_of (q := (36, .aload_n 0, 1)) mq_71 ci_71 (List.mem_of_getElem? (i := 19) rfl)
theorem cd_71_37 : mt_cd 71 37 = some (.getfield 15) := mt_cd_of (q := (37, .getfield 15, 3)) mq_71 ci_71 (List.mem_of_getElem? (i := 20) rfl)
theorem cd_71_40 : mt_cd 71 40 = some (.iconst 0) := mt_cd_of (q := (40, .iconst 0, 1)) mq_71 ci_71 (List.mem_of_getElem? (i := 21) rfl)
theorem cd_71_41 : mt_cd 71 41 = some (.bipush 8) := mt_cd_of (q := (41, .bipush 8, 2)) mq_71 ci_71 (List.mem_of_getElem? (i := 22) rfl)
theorem cd_71_43 : mt_cd 71 43 = some (.invokestatic 41) := mt_cd_of (q := (43, .invokestatic 41, 3)) mq_71 ci_71 (List.mem_of_getElem? (i := 23) rfl)
theorem cd_71_46 : mt_cd 71 46 = some (.aload_n 1) := mt_cd_of (q := (46, .aload_n 1, 1)) mq_71 ci_71 (List.mem_of_getElem? (i := 24) rfl)
theorem cd_71_47 : mt_cd 71 47 = some (.getfield 18) := mt_cd_of (q := (47, .getfield 18, 3)) mq_71 ci_71 (List.mem_of_getElem? (i := 25) rfl)
theorem cd_71_50 : mt_cd 71 50 = some (.iconst 0) := mt_cd_of (q := (50, .iconst 0, 1)) mq_71 ci_71 (List.mem_of_getElem? (i := 26) rfl)
theorem cd_71_51 : mt_cd 71 51 = some (.aload_n 0) := mt_cd_of (q := (51, .aload_n 0, 1)) mq_71 ci_71 (List.mem_of_getElem? (i := 27) rfl)
theorem cd_71_52 : mt_cd 71 52 = some (.getfield 18) := mt_cd_of (q := (52, .getfield 18, 3)) mq_71 ci_71 (List.mem_of_getElem? (i := 28) rfl)
theorem cd_71_55 : mt_cd 71 55 = some (.iconst 0) := mt_cd_of (q := (55, .iconst 0, 1)) mq_71 ci_71 (List.mem_of_getElem? (i := 29) rfl)
theorem cd_71_56 : mt_cd 71 56 = some (.bipush 8) := mt_cd_of (q := (56, .bipush 8, 2)) mq_71 ci_71 (List.mem_of_getElem? (i := 30) rfl)
theorem cd_71_58 : mt_cd 71 58 = some (.invokestatic 41) := mt_cd_of (q := (58, .invokestatic 41, 3)) mq_71 ci_71 (List.mem_of_getElem? (i := 31) rfl)
theorem cd_71_61 : mt_cd 71 61 = some (.aload_n 0) := mt_cd_of (q := (61, .aload_n 0, 1)) mq_71 ci_71 (List.mem_of_getElem? (i := 32) rfl)
theorem cd_71_62 : mt_cd 71 62 = some (.aload_n 1) := mt_cd_of (q := (62, .aload_n 1, 1)) mq_71 ci_71 (List.mem_of_getElem? (i := 33) rfl)
theorem cd_71_63 : mt_cd 71 63 = some (.getfield 35) := mt_cd_of (q := (63, .getfield 35, 3)) mq_71 ci_71 (List.mem_of_getElem? (i := 34) rfl)
theorem cd_71_66 : mt_cd 71 66 = some (.putfield 35) := mt_cd_of (q := (66, .putfield 35, 3)) mq_71 ci_71 (List.mem_of_getElem? (i := 35) rfl)
theorem cd_71_69 : mt_cd 71 69 = some (.aload_n 0) := mt_cd_of (q := (69, .aload_n 0, 1)) mq_71 ci_71 (List.mem_of_getElem? (i := 36) rfl)
theorem cd_71_70 : mt_cd 71 70 = some (.aload_n 1) := mt_cd_of (q := (70, .aload_n 1, 1)) mq_71 ci_71 (List.mem_of_getElem? (i := 37) rfl)
theorem cd_71_71 : mt_cd 71 71 = some (.getfield 38) := mt_cd_of (q := (71, .getfield 38, 3)) mq_71 ci_71 (List.mem_of_getElem? (i := 38) rfl)
theorem cd_71_74 : mt_cd 71 74 = some (.putfield 38) := mt_cd_of (q := (74, .putfield 38, 3)) mq_71 ci_71 (List.mem_of_getElem? (i := 39) rfl)
theorem cd_71_77 : mt_cd 71 77 = some (.return_) := mt_cd_of (q := (77, .return_, 1)) mq_71 ci_71 (List.mem_of_getElem? (i := 40) rfl)
theorem b_71_0 {d : Nat} {Q : (Option Value ⊕ Nat) → mi_H → Prop} (n sl : Nat) (f : Nat → mi_C) {l1 : Nat} {l2 : Nat} {fs3 : List Value} {x6 : Int32} {fs8 : List Value} {fs12 : List Value} {x15 : Int64} {fs17 : List Value} {fs21 : List Value} {x24 : Nat} {fs26 : List Value} {x29 : Nat} (m31 k31 : Nat) (g31 e31 : Nat → Int64) {fs37 : List Value} {x40 : Nat} {fs42 : List Value} {x45 : Nat} (m47 k47 : Nat) (g47 e47 : Nat → Int64) {fs53 : List Value} {x56 : Nat} {fs58 : List Value} {x61 : Nat} (m63 k63 : Nat) (g63 e63 : Nat → Int64) {fs69 : List Value} {x72 : Int32} {fs74 : List Value} (h4 : f l2 = .inr (9, fs3)) (h5 : l2 < n) (h7 : fs3[0]? = some (.int x6)) (h9 : f l1 = .inr (9, fs8)) (h10 : l1 < n) (h11 : 0 < fs8.length) (h13 : (va_up f l1 (.inr (9, fs8.set 0 (.int x6)))) l2 = .inr (9, fs12)) (h14 : l2 < n) (h16 : fs12[1]? = some (.long x15)) (h18 : (va_up f l1 (.inr (9, fs8.set 0 (.int x6)))) l1 = .inr (9, fs17)) (h19 : l1 < n) (h20 : 1 < fs17.length) (h22 : (va_up (va_up f l1 (.inr (9, fs8.set 0 (.int x6)))) l1 (.inr (9, fs17.set 1 (.long x15)))) l2 = .inr (9, fs21)) (h23 : l2 < n) (h25 : fs21[2]? = some (.ref x24)) (h27 : (va_up (va_up f l1 (.inr (9, fs8.set 0 (.int x6)))) l1 (.inr (9, fs17.set 1 (.long x15)))) l1 = .inr (9, fs26)) (h28 : l1 < n) (h30 : fs26[2]? = some (.ref x29)) (h32 : (va_up (va_up f l1 (.inr (9, fs8.set 0 (.int x6)))) l1 (.inr (9, fs17.set 1 (.long x15)))) x24 = .inl (3, m31, .inr (.inl g31))) (h33 : x24 < n) (h34 : (va_up (va_up f l1 (.inr (9, fs8.set 0 (.int x6)))) l1 (.inr (9, fs17.set 1 (.long x15)))) x29 = .inl (3, k31, .inr (.inl e31))) (h35 : x29 < n) (h36 : ¬ (0 : Int32) < 0 ∧ ¬ (0 : Int32) < 0 ∧ ¬ (32 : Int32) < 0 ∧ (0 : Int32).toNatClampNeg + (32 : Int32).toNatClampNeg ≤ m31 ∧ (0 : Int32).toNatClampNeg + (32 : Int32).toNatClampNeg ≤ k31) (h38 : (va_up (va_up (va_up f l1 (.inr (9, fs8.set 0 (.int x6)))) l1 (.inr (9, fs17.set 1 (.long x15)))) x29 (.inl (3, k31, .inr (.inl (va_cpy g31 e31 (0 : Int32).toNatClampNeg (0 : Int32).toNatClampNeg (32 : Int32).toNatClampNeg))))) l2 = .inr (9, fs37)) (h39 : l2 < n) (h41 : fs37[3]? = some (.ref x40)) (h43 : (va_up (va_up (va_up f l1 (.inr (9, fs8.set 0 (.int x6)))) l1 (.inr (9, fs17.set 1 (.long x15)))) x29 (.inl (3, k31, .inr (.inl (va_cpy g31 e31 (0 : Int32).toNatClampNeg (0 : Int32).toNatClampNeg (32 : Int32).toNatClampNeg))))) l1 = .inr (9, fs42)) (h44 : l1 < n) (h46 : fs42[3]? = some (.ref x45)) (h48 : (va_up (va_up (va_up f l1 (.inr (9, fs8.set 0 (.int x6)))) l1 (.inr (9, fs17.set 1 (.long x15)))) x29 (.inl (3, k31, .inr (.inl (va_cpy g31 e31 (0 : Int32).toNatClampNeg (0 : Int32).toNatClampNeg (32 : Int32).toNatClampNeg))))) x40 = .inl (3, m47, .inr (.inl g47))) (h49 : x40 < n) (h50 : (va_up (va_up (va_up f l1 (.inr (9, fs8.set 0 (.int x6)))) l1 (.inr (9, fs17.set 1 (.long x15)))) x29 (.inl (3, k31, .inr (.inl (va_cpy g31 e31 (0 : Int32).toNatClampNeg (0 : Int32).toNatClampNeg (32 : Int32).toNatClampNeg))))) x45 = .inl (3, k47, .inr (.inl e47))) (h51 : x45 < n) (h52 : ¬ (0 : Int32) < 0 ∧ ¬ (0 : Int32) < 0 ∧ ¬ (8 : Int32) < 0 ∧ (0 : Int32).toNatClampNeg + (8 : Int32).toNatClampNeg ≤ m47 ∧ (0 : Int32).toNatClampNeg + (8 : Int32).toNatClampNeg ≤ k47) (h54 : (va_up (va_up (va_up (va_up f l1 (.inr (9, fs8.set 0 (.int x6)))) l1 (.inr (9, fs17.set 1 (.long x15)))) x29 (.inl (3, k31, .inr (.inl (va_cpy g31 e31 (0 : Int32).toNatClampNeg (0 : Int32).toNatClampNeg (32 : Int32).toNatClampNeg))))) x45 (.inl (3, k47, .inr (.inl (va_cpy g47 e47 (0 : Int32).toNatClampNeg (0 : Int32).toNatClampNeg (8 : Int32).toNatClampNeg))))) l2 = .inr (9, fs53)) (h55 : l2 < n) (h57 : fs53[4]? = some (.ref x56)) (h59 : (va_up (va_up (va_up (va_up f l1 (.inr (9, fs8.set 0 (.int x6)))) l1 (.inr (9, fs17.set 1 (.long x15)))) x29 (.inl (3, k31, .inr (.inl (va_cpy g31 e31 (0 : Int32).toNatClampNeg (0 : Int32).toNatClampNeg (32 : Int32).toNatClampNeg))))) x45 (.inl (3, k47, .inr (.inl (va_cpy g47 e47 (0 : Int32).toNatClampNeg (0 : Int32).toNatClampNeg (8 : Int32).toNatClampNeg))))) l1 = .inr (9, fs58)) (h60 : l1 < n) (h62 : fs58[4]? = some (.ref x61)) (h64 : (va_up (va_up (va_up (va_up f l1 (.inr (9, fs8.set 0 (.int x6)))) l1 (.inr (9, fs17.set 1 (.long x15)))) x29 (.inl (3, k31, .inr (.inl (va_cpy g31 e31 (0 : Int32).toNatClampNeg (0 : Int32).toNatClampNeg (32 : Int32).toNatClampNeg))))) x45 (.inl (3, k47, .inr (.inl (va_cpy g47 e47 (0 : Int32).toNatClampNeg (0 : Int32).toNatClampNeg (8 : Int32).toNatClampNeg))))) x56 = .inl (3, m63, .inr (.inl g63))) (h65 : x56 < n) (h66 : (va_up (va_up (va_up (va_up f l1 (.inr (9, fs8.set 0 (.int x6)))) l1 (.inr (9, fs17.set 1 (.long x15)))) x29 (.inl (3, k31, .inr (.inl (va_cpy g31 e31 (0 : Int32).toNatClampNeg (0 : Int32).toNatClampNeg (32 : Int32).toNatClampNeg))))) x45 (.inl (3, k47, .inr (.inl (va_cpy g47 e47 (0 : Int32).toNatClampNeg (0 : Int32).toNatClampNeg (8 : Int32).toNatClampNeg))))) x61 = .inl (3, k63, .inr (.inl e63))) (h67 : x61 < n) (h68 : ¬ (0 : Int32) < 0 ∧ ¬ (0 : Int32) < 0 ∧ ¬ (8 : Int32) < 0 ∧ (0 : Int32).toNatClampNeg + (8 : Int32).toNatClampNeg ≤ m63 ∧ (0 : Int32).toNatClampNeg + (8 : Int32).toNatClampNeg ≤ k63) (h70 : (va_up (va_up (va_up (va_up (va_up f l1 (.inr (9, fs8.set 0 (.int x6)))) l1 (.inr (9, fs17.set 1 (.long x15)))) x29 (.inl (3, k31, .inr (.inl (va_cpy g31 e31 (0 : Int32).toNatClampNeg (0 : Int32).toNatClampNeg (32 : Int32).toNatClampNeg))))) x45 (.inl (3, k47, .inr (.inl (va_cpy g47 e47 (0 : Int32).toNatClampNeg (0 : Int32).toNatClampNeg (8 : Int32).toNatClampNeg))))) x61 (.inl (3, k63, .inr (.inl (va_cpy g63 e63 (0 : Int32).toNatClampNeg (0 : Int32).toNatClampNeg (8 : Int32).toNatClampNeg))))) l2 = .inr (9, fs69)) (h71 : l2 < n) (h73 : fs69[5]? = some (.int x72)) (h75 : (va_up (va_up (va_up (va_up (va_up f l1 (.inr (9, fs8.set 0 (.int x6)))) l1 (.inr (9, fs17.set 1 (.long x15)))) x29 (.inl (3, k31, .inr (.inl (va_cpy g31 e31 (0 : Int32).toNatClampNeg (0 : Int32).toNatClampNeg (32 : Int32).toNatClampNeg))))) x45 (.inl (3, k47, .inr (.inl (va_cpy g47 e47 (0 : Int32).toNatClampNeg (0 : Int32).toNatClampNeg (8 : Int32).toNatClampNeg))))) x61 (.inl (3, k63, .inr (.inl (va_cpy g63 e63 (0 : Int32).toNatClampNeg (0 : Int32).toNatClampNeg (8 : Int32).toNatClampNeg))))) l1 = .inr (9, fs74)) (h76 : l1 < n) (h77 : 5 < fs74.length) (h78 : mi_W d 71 69 [some (.ref l1), some (.ref l2)] [] (n, sl, (va_up (va_up (va_up (va_up (va_up (va_up f l1 (.inr (9, fs8.set 0 (.int x6)))) l1 (.inr (9, fs17.set 1 (.long x15)))) x29 (.inl (3, k31, .inr (.inl (va_cpy g31 e31 (0 : Int32).toNatClampNeg (0 : Int32).toNatClampNeg (32 : Int32).toNatClampNeg))))) x45 (.inl (3, k47, .inr (.inl (va_cpy g47 e47 (0 : Int32).toNatClampNeg (0 : Int32).toNatClampNeg (8 : Int32).toNatClampNeg))))) x61 (.inl (3, k63, .inr (.inl (va_cpy g63 e63 (0 : Int32).toNatClampNeg (0 : Int32).toNatClampNeg (8 : Int32).toNatClampNeg))))) l1 (.inr (9, fs74.set 5 (.int x72))))) Q) : mi_W d 71 0 [some (.ref l1), some (.ref l2)] [] (n, sl, f) Q := by
  refine w_aload_n cd_71_0 rfl ?_
  refine w_aload_n cd_71_1 rfl ?_
  refine w_getfield cd_71_2 (show mt_f 9 21 = some (9, 0) by decide +kernel) h4 h5 h7 ?_
  refine w_putfield (w := .int x6) cd_71_5 (show mt_f 9 21 = some (9, 0) by decide +kernel) h9 h10 ⟨h11, rfl, Or.inl (by decide)⟩ ?_
  refine w_aload_n cd_71_8 rfl ?_
  refine w_aload_n cd_71_9 rfl ?_
  refine w_getfield cd_71_10 (show mt_f 9 25 = some (9, 1) by decide +kernel) h13 h14 h16 ?_
  refine w_putfield (w := .long x15) cd_71_13 (show mt_f 9 25 = some (9, 1) by decide +kernel) h18 h19 ⟨h20, rfl, Or.inl (by decide)⟩ ?_
  refine w_aload_n cd_71_16 rfl ?_
  refine w_getfield cd_71_17 (show mt_f 9 9 = some (9, 2) by decide +kernel) h22 h23 h25 ?_
  refine w_iconst (v := 0) cd_71_20 (by decide) ?_
  refine w_aload_n cd_71_21 rfl ?_
  refine w_getfield cd_71_22 (show mt_f 9 9 = some (9, 2) by decide +kernel) h27 h28 h30 ?_
  refine w_iconst (v := 0) cd_71_25 (by decide) ?_
  refine w_bipush (v := 32) cd_71_26 (by decide) ?_
  refine w_arraycopy cd_71_28 (by decide) h32 h33 h34 h35 (Nat.le_of_ble_eq_true rfl) h36 ?_
  refine w_aload_n cd_71_31 rfl ?_
  refine w_getfield cd_71_32 (show mt_f 9 15 = some (9, 3) by decide +kernel) h38 h39 h41 ?_
  refine w_iconst (v := 0) cd_71_35 (by decide) ?_
  refine w_aload_n cd_71_36 rfl ?_
  refine w_getfield cd_71_37 (show mt_f 9 15 = some (9, 3) by decide +kernel) h43 h44 h46 ?_
  refine w_iconst (v := 0) cd_71_40 (by decide) ?_
  refine w_bipush (v := 8) cd_71_41 (by decide) ?_
  refine w_arraycopy cd_71_43 (by decide) h48 h49 h50 h51 (Nat.le_of_ble_eq_true rfl) h52 ?_
  refine w_aload_n cd_71_46 rfl ?_
  refine w_getfield cd_71_47 (show mt_f 9 18 = some (9, 4) by decide +kernel) h54 h55 h57 ?_
  refine w_iconst (v := 0) cd_71_50 (by decide) ?_
  refine w_aload_n cd_71_51 rfl ?_
  refine w_getfield cd_71_52 (show mt_f 9 18 = some (9, 4) by decide +kernel) h59 h60 h62 ?_
  refine w_iconst (v := 0) cd_71_55 (by decide) ?_
  refine w_bipush (v := 8) cd_71_56 (by decide) ?_
  refine w_arraycopy cd_71_58 (by decide) h64 h65 h66 h67 (Nat.le_of_ble_eq_true rfl) h68 ?_
  refine w_aload_n cd_71_61 rfl ?_
  refine w_aload_n cd_71_62 rfl ?_
  refine w_getfield cd_71_63 (show mt_f 9 35 = some (9, 5) by decide +kernel) h70 h71 h73 ?_
  refine w_putfield (w := .int x72) cd_71_66 (show mt_f 9 35 = some (9, 5) by decide +kernel) h75 h76 ⟨h77, rfl, Or.inl (by decide)⟩ ?_
  exact h78
theorem b_71_69 {d : Nat} {Q : (Option Value ⊕ Nat) → mi_H → Prop} (n sl : Nat) (f : Nat → mi_C) {l1 : Nat} {l2 : Nat} {fs3 : List Value} {x6 : Int32} {fs8 : List Value} (h4 : f l2 = .inr (9, fs3)) (h5 : l2 < n) (h7 : fs3[6]? = some (.int x6)) (h9 : f l1 = .inr (9, fs8)) (h10 : l1 < n) (h11 : 6 < fs8.length) (h12 : Q (.inl none) (n, sl, (va_up f l1 (.inr (9, fs8.set 6 (.int x6)))))) : mi_W d 71 69 [some (.ref l1), some (.ref l2)] [] (n, sl, f) Q := by
  refine w_aload_n cd_71_69 rfl ?_
  refine w_aload_n cd_71_70 rfl ?_
  refine w_getfield cd_71_71 (show mt_f 9 38 = some (9, 6) by decide +kernel) h4 h5 h7 ?_
  refine w_putfield (w := .int x6) cd_71_74 (show mt_f 9 38 = some (9, 6) by decide +kernel) h9 h10 ⟨h11, rfl, Or.inl (by decide)⟩ ?_
  exact w_return cd_71_77 (by decide +kernel) h12
/-! MarloweHost$Machine.run(LMarloweHost$Situation;LMarloweHost$Inputs;JJ)I -/
set_option maxRecDepth 100000 in
theorem mq_72 : mt_q 72 = my_72 := rfl
set_option maxRecDepth 100000 in
theorem ci_72 : mt_inc 0 my_72.cd = true := by decide +kernel
theorem cd_72_0 : mt_cd 72 0 = some (.aload_n 0) := mt_cd_of (q := (0, .aload_n 0, 1)) mq_72 ci_72 (List.mem_of_getElem? (i := 0) rfl)
theorem cd_72_1 : mt_cd 72 1 = some (.getfield 12) := mt_cd_of (q := (1, .getfield 12, 3)) mq_72 ci_72 (List.mem_of_getElem? (i := 1) rfl)
theorem cd_72_4 : mt_cd 72 4 = some (.invokevirtual 42) := mt_cd_of (q := (4, .invokevirtual 42, 3)) mq_72 ci_72 (List.mem_of_getElem? (i := 2) rfl)
theorem cd_72_7 : mt_cd 72 7 = some (.aload_n 0) := mt_cd_of (q := (7, .aload_n 0, 1)) mq_72 ci_72 (List.mem_of_getElem? (i := 3) rfl)
theorem cd_72_8 : mt_cd 72 8 = some (.lload 5) := mt_cd_of (q := (8, .lload 5, 2)) mq_72 ci_72 (List.mem_of_getElem? (i := 4) rfl)
theorem cd_72_10 : mt_cd 72 10 = some (.lload_n 3) := mt_cd_of (q := (10, .lload_n 3, 1)) mq_72 ci_72 (List.mem_of_getElem? (i := 5) rfl)
theorem cd_72_11 : mt_cd 72 11 = some (.lcmp) := mt_cd_of (q := (11, .lcmp, 1)) mq_72 ci_72 (List.mem_of_getElem? (i := 6) rfl)
theorem cd_72_12 : mt_cd 72 12 = some (.ifCond .ge 7) := mt_cd_of (q := (12, .ifCond .ge 7, 3)) mq_72 ci_72 (List.mem_of_getElem? (i := 7) rfl)
theorem cd_72_15 : mt_cd 72 15 = some (.iconst 1) := mt_cd_of (q := (15, .iconst 1, 1)) mq_72 ci_72 (List.mem_of_getElem? (i := 8) rfl)
theorem cd_72_16 : mt_cd 72 16 = some (.goto 18) := mt_cd_of (q := (16, .goto 18, 3)) mq_72 ci_72 (List.mem_of_getElem? (i := 9) rfl)
theorem cd_72_19 : mt_cd 72 19 = some (.lload 5) := mt_cd_of (q := (19, .lload 5, 2)) mq_72 ci_72 (List.mem_of_getElem? (i := 10) rfl)
theorem cd_72_21 : mt_cd 72 21 = some (.aload_n 1) := mt_cd_of (q := (21, .aload_n 1, 1)) mq_72 ci_72 (List.mem_of_getElem? (i := 11) rfl)
theorem cd_72_22 : mt_cd 72 22 = some (.getfield 45) := mt_cd_of (q := (22, .getfield 45, 3)) mq_72 ci_72 (List.mem_of_getElem? (i := 12) rfl)
theorem cd_72_25 : mt_cd 72 25 = some (.lcmp) := mt_cd_of (q := (25, .lcmp, 1)) mq_72 ci_72 (List.mem_of_getElem? (i := 13) rfl)
theorem cd_72_26 : mt_cd 72 26 = some (.ifCond .ge 7) := mt_cd_of (q := (26, .ifCond .ge 7, 3)) mq_72 ci_72 (List.mem_of_getElem? (i := 14) rfl)
theorem cd_72_29 : mt_cd 72 29 = some (.iconst 2) := mt_cd_of (q := (29, .iconst 2, 1)) mq_72 ci_72 (List.mem_of_getElem? (i := 15) rfl)
theorem cd_72_30 : mt_cd 72 30 = some (.goto 4) := mt_cd_of (q := (30, .goto 4, 3)) mq_72 ci_72 (List.mem_of_getElem? (i := 16) rfl)
theorem cd_72_33 : mt_cd 72 33 = some (.iconst 0) := mt_cd_of (q := (33, .iconst 0, 1)) mq_72 ci_72 (List.mem_of_getElem? (i := 17) rfl)
theorem cd_72_34 : mt_cd 72 34 = some (.putfield 49) := mt_cd_of (q := (34, .putfield 49, 3)) mq_72 ci_72 (List.mem_of_getElem? (i := 18) rfl)
theorem cd_72_37 : mt_cd 72 37 = some (.aload_n 0) := mt_cd_of (q := (37, .aload_n 0, 1)) mq_72 ci_72 (List.mem_of_getElem? (i := 19) rfl)
theorem cd_72_38 : mt_cd 72 38 = some (.getfield 49) := mt_cd_of (q := (38, .getfield 49, 3)) mq_72 ci_72 (List.mem_of_getElem? (i := 20) rfl)
theorem cd_72_41 : mt_cd 72 41 = some (.ifCond .ne 48) := mt_cd_of (q := (41, .ifCond .ne 48, 3)) mq_72 ci_72 (List.mem_of_getElem? (i := 21) rfl)
theorem cd_72_44 : mt_cd 72 44 = some (.aload_n 0) := mt_cd_of (q := (44, .aload_n 0, 1)) mq_72 ci_72 (List.mem_of_getElem? (i := 22) rfl)
theorem cd_72_45 : mt_cd 72 45 = some (.aload_n 1) := mt_cd_of (q := (45, .aload_n 1, 1)) mq_72 ci_72 (List.mem_of_getElem? (i := 23) rfl)
theorem cd_72_46 : mt_cd 72 46 = some (.lload_n 3) := mt_cd_of (q := (46, .lload_n 3, 1)) mq_72 ci_72 (List.mem_of_getElem? (i := 24) rfl)
theorem cd_72_47 : mt_cd 72 47 = some (.aload_n 1) := mt_cd_of (q := (47, .aload_n 1, 1)) mq_72 ci_72 (List.mem_of_getElem? (i := 25) rfl)
theorem cd_72_48 : mt_cd 72 48 = some (.getfield 45) := mt_cd_of (q := (48, .getfield 45, 3)) mq_72 ci_72 (List.mem_of_getElem? (i := 26) rfl)
theorem cd_72_51 : mt_cd 72 51 = some (.invokestatic 53) := mt_cd_of (q := (51, .invokestatic 53, 3)) mq_72 ci_72 (List.mem_of_getElem? (i := 27) rfl)
theorem cd_72_54 : mt_cd 72 54 = some (.lload 5) := mt_cd_of (q := (54, .lload 5, 2)) mq_72 ci_72 (List.mem_of_getElem? (i := 28) rfl)
theorem cd_72_56 : mt_cd 72 56 = some (.invokevirtual 59) := mt_cd_of (q := (56, .invokevirtual 59, 3)) mq_72 ci_72 (List.mem_of_getElem? (i := 29) rfl)
theorem cd_72_59 : mt_cd 72 59 = some (.aload_n 0) := mt_cd_of (q := (59, .aload_n 0, 1)) mq_72 ci_72 (List.mem_of_getElem? (i := 30) rfl)
theorem cd_72_60 : mt_cd 72 60 = some (.invokevirtual 63) := mt_cd_of (q := (60, .invokevirtual 63, 3)) mq_72 ci_72 (List.mem_of_getElem? (i := 31) rfl)
theorem cd_72_63 : mt_cd 72 63 = some (.istore 7) := mt_cd_of (q := (63, .istore 7, 2)) mq_72 ci_72 (List.mem_of_getElem? (i := 32) rfl)
theorem cd_72_65 : mt_cd 72 65 = some (.aload_n 0) := mt_cd_of (q := (65, .aload_n 0, 1)) mq_72 ci_72 (List.mem_of_getElem? (i := 33) rfl)
theorem cd_72_66 : mt_cd 72 66 = some (.getfield 49) := mt_cd_of (q := (66, .getfield 49, 3)) mq_72 ci_72 (List.mem_of_getElem? (i := 34) rfl)
theorem cd_72_69 : mt_cd 72 69 = some (.ifCond .ne 20) := mt_cd_of (q := (69, .ifCond .ne 20, 3)) mq_72 ci_72 (List.mem_of_getElem? (i := 35) rfl)
theorem cd_72_72 : mt_cd 72 72 = some (.aload_n 2) := mt_cd_of (q := (72, .aload_n 2, 1)) mq_72 ci_72 (List.mem_of_getElem? (i := 36) rfl)
theorem cd_72_73 : mt_cd 72 73 = some (.getfield 67) := mt_cd_of (q := (73, .getfield 67, 3)) mq_72 ci_72 (List.mem_of_getElem? (i := 37) rfl)
theorem cd_72_76 : mt_cd 72 76 = some (.ifCond .ne 13) := mt_cd_of (q := (76, .ifCond .ne 13, 3)) mq_72 ci_72 (List.mem_of_getElem? (i := 38) rfl)
theorem cd_72_79 : mt_cd 72 79 = some (.iload 7) := mt_cd_of (q := (79, .iload 7, 2)) mq_72 ci_72 (List.mem_of_getElem? (i := 39) rfl)
theorem cd_72_81 : mt_cd 72 81 = some (.ifCond .ne 8) := mt_cd_of (q := (81, .ifCond .ne 8, 3)) mq_72 ci_72 (List.mem_of_getElem? (i := 40) rfl)
theorem cd_72_84 : mt_cd 72 84 = some (.aload_n 0) := mt_cd_of (q := (84, .aload_n 0, 1)) mq_72 ci_72 (List.mem_of_getElem? (i := 41) rfl)
theorem cd_72_85 : mt_cd 72 85 = some (.iconst 5) := mt_cd_of (q := (85, .iconst 5, 1)) mq_72 ci_72 (List.mem_of_getElem? (i := 42) rfl)
theorem cd_72_86 : mt_cd 72 86 = some (.putfield 49) := mt_cd_of (q := (86, .putfield 49, 3)) mq_72 ci_72 (List.mem_of_getElem? (i := 43) rfl)
theorem cd_72_89 : mt_cd 72 89 = some (.iconst 0) := mt_cd_of (q := (89, .iconst 0, 1)) mq_72 ci_72 (List.mem_of_getElem? (i := 44) rfl)
theorem cd_72_90 : mt_cd 72 90 = some (.istore 7) := mt_cd_of (q := (90, .istore 7, 2)) mq_72 ci_72 (List.mem_of_getElem? (i := 45) rfl)
theorem cd_72_92 : mt_cd 72 92 = some (.iload 7) := mt_cd_of (q := (92, .iload 7, 2)) mq_72 ci_72 (List.mem_of_getElem? (i := 46) rfl)
theorem cd_72_94 : mt_cd 72 94 = some (.aload_n 2) := mt_cd_of (q := (94, .aload_n 2, 1)) mq_72 ci_72 (List.mem_of_getElem? (i := 47) rfl)
theorem cd_72_95 : mt_cd 72 95 = some (.getfield 67) := mt_cd_of (q := (95, .getfield 67, 3)) mq_72 ci_72 (List.mem_of_getElem? (i := 48) rfl)
theorem cd_72_98 : mt_cd 72 98 = some (.if_icmp .ge 35) := mt_cd_of (q := (98, .if_icmp .ge 35, 3)) mq_72 ci_72 (List.mem_of_getElem? (i := 49) rfl)
theorem cd_72_101 : mt_cd 72 101 = some (.iload 7) := mt_cd_of (q := (101, .iload 7, 2)) mq_72 ci_72 (List.mem_of_getElem? (i := 50) rfl)
theorem cd_72_103 : mt_cd 72 103 = some (.bipush 16) := mt_cd_of (q := (103, .bipush 16, 2)) mq_72 ci_72 (List.mem_of_getElem? (i := 51) rfl)
theorem cd_72_105 : mt_cd 72 105 = some (.if_icmp .ge 28) := mt_cd_of (q := (105, .if_icmp .ge 28, 3)) mq_72 ci_72 (List.mem_of_getElem? (i := 52) rfl)
theorem cd_72_108 : mt_cd 72 108 = some (.aload_n 0) := mt_cd_of (q := (108, .aload_n 0, 1)) mq_72 ci_72 (List.mem_of_getElem? (i := 53) rfl)
theorem cd_72_109 : mt_cd 72 109 = some (.getfield 49) := mt_cd_of (q := (109, .getfield 49, 3)) mq_72 ci_72 (List.mem_of_getElem? (i := 54) rfl)
theorem cd_72_112 : mt_cd 72 112 = some (.ifCond .ne 21) := mt_cd_of (q := (112, .ifCond .ne 21, 3)) mq_72 ci_72 (List.mem_of_getElem? (i := 55) rfl)
theorem cd_72_115 : mt_cd 72 115 = some (.aload_n 0) := mt_cd_of (q := (115, .aload_n 0, 1)) mq_72 ci_72 (List.mem_of_getElem? (i := 56) rfl)
theorem cd_72_116 : mt_cd 72 116 = some (.aload_n 2) := mt_cd_of (q := (116, .aload_n 2, 1)) mq_72 ci_72 (List.mem_of_getElem? (i := 57) rfl)
theorem cd_72_117 : mt_cd 72 117 = some (.iload 7) := mt_cd_of (q := (117, .iload 7, 2)) mq_72 ci_72 (List.mem_of_getElem? (i := 58) rfl)
theorem cd_72_119 : mt_cd 72 119 = some (.invokevirtual 72) := mt_cd_of (q := (119, .invokevirtual 72, 3)) mq_72 ci_72 (List.mem_of_getElem? (i := 59) rfl)
theorem cd_72_122 : mt_cd 72 122 = some (.aload_n 0) := mt_cd_of (q := (122, .aload_n 0, 1)) mq_72 ci_72 (List.mem_of_getElem? (i := 60) rfl)
theorem cd_72_123 : mt_cd 72 123 = some (.invokevirtual 63) := mt_cd_of (q := (123, .invokevirtual 63, 3)) mq_72 ci_72 (List.mem_of_getElem? (i := 61) rfl)
theorem cd_72_126 : mt_cd 72 126 = some (.pop) := mt_cd_of (q := (126, .pop, 1)) mq_72 ci_72 (List.mem_of_getElem? (i := 62) rfl)
theorem cd_72_127 : mt_cd 72 127 = some (.iinc 7 1) := mt_cd_of (q := (127, .iinc 7 1, 3)) mq_72 ci_72 (List.mem_of_getElem? (i := 63) rfl)
theorem cd_72_130 : mt_cd 72 130 = some (.goto (-38)) := mt_cd_of (q := (130, .goto (-38), 3)) mq_72 ci_72 (List.mem_of_getElem? (i := 64) rfl)
theorem cd_72_133 : mt_cd 72 133 = some (.aload_n 0) := mt_cd_of (q := (133, .aload_n 0, 1)) mq_72 ci_72 (List.mem_of_getElem? (i := 65) rfl)
theorem cd_72_134 : mt_cd 72 134 = some (.getfield 49) := mt_cd_of (q := (134, .getfield 49, 3)) mq_72 ci_72 (List.mem_of_getElem? (i := 66) rfl)
theorem cd_72_137 : mt_cd 72 137 = some (.ifCond .ne 30) := mt_cd_of (q := (137, .ifCond .ne 30, 3)) mq_72 ci_72 (List.mem_of_getElem? (i := 67) rfl)
theorem cd_72_140 : mt_cd 72 140 = some (.aload_n 0) := mt_cd_of (q := (140, .aload_n 0, 1)) mq_72 ci_72 (List.mem_of_getElem? (i := 68) rfl)
theorem cd_72_141 : mt_cd 72 141 = some (.getfield 22) := mt_cd_of (q := (141, .getfield 22, 3)) mq_72 ci_72 (List.mem_of_getElem? (i := 69) rfl)
theorem cd_72_144 : mt_cd 72 144 = some (.ifnull 23) := mt_cd_of (q := (144, .ifnull 23, 3)) mq_72 ci_72 (List.mem_of_getElem? (i := 70) rfl)
theorem cd_72_147 : mt_cd 72 147 = some (.aload_n 0) := mt_cd_of (q := (147, .aload_n 0, 1)) mq_72 ci_72 (List.mem_of_getElem? (i := 71) rfl)
theorem cd_72_148 : mt_cd 72 148 = some (.getfield 22) := mt_cd_of (q := (148, .getfield 22, 3)) mq_72 ci_72 (List.mem_of_getElem? (i := 72) rfl)
theorem cd_72_151 : mt_cd 72 151 = some (.aload_n 0) := mt_cd_of (q := (151, .aload_n 0, 1)) mq_72 ci_72 (List.mem_of_getElem? (i := 73) rfl)
theorem cd_72_152 : mt_cd 72 152 = some (.getfield 12) := mt_cd_of (q := (152, .getfield 12, 3)) mq_72 ci_72 (List.mem_of_getElem? (i := 74) rfl)
theorem cd_72_155 : mt_cd 72 155 = some (.invokevirtual 76) := mt_cd_of (q := (155, .invokevirtual 76, 3)) mq_72 ci_72 (List.mem_of_getElem? (i := 75) rfl)
theorem cd_72_158 : mt_cd 72 158 = some (.ifCond .ne 9) := mt_cd_of (q := (158, .ifCond .ne 9, 3)) mq_72 ci_72 (List.mem_of_getElem? (i := 76) rfl)
theorem cd_72_161 : mt_cd 72 161 = some (.aload_n 0) := mt_cd_of (q := (161, .aload_n 0, 1)) mq_72 ci_72 (List.mem_of_getElem? (i := 77) rfl)
theorem cd_72_162 : mt_cd 72 162 = some (.bipush 6) := mt_cd_of (q := (162, .bipush 6, 2)) mq_72 ci_72 (List.mem_of_getElem? (i := 78) rfl)
theorem cd_72_164 : mt_cd 72 164 = some (.putfield 49) := mt_cd_of (q := (164, .putfield 49, 3)) mq_72 ci_72 (List.mem_of_getElem? (i := 79) rfl)
theorem cd_72_167 : mt_cd 72 167 = some (.aload_n 0) := mt_cd_of (q := (167, .aload_n 0, 1)) mq_72 ci_72 (List.mem_of_getElem? (i := 80) rfl)
theorem cd_72_168 : mt_cd 72 168 = some (.getfield 49) := mt_cd_of (q := (168, .getfield 49, 3)) mq_72 ci_72 (List.mem_of_getElem? (i := 81) rfl)
theorem cd_72_171 : mt_cd 72 171 = some (.ifCond .eq 10) := mt_cd_of (q := (171, .ifCond .eq 10, 3)) mq_72 ci_72 (List.mem_of_getElem? (i := 82) rfl)
theorem cd_72_174 : mt_cd 72 174 = some (.aload_n 0) := mt_cd_of (q := (174, .aload_n 0, 1)) mq_72 ci_72 (List.mem_of_getElem? (i := 83) rfl)
theorem cd_72_175 : mt_cd 72 175 = some (.getfield 12) := mt_cd_of (q := (175, .getfield 12, 3)) mq_72 ci_72 (List.mem_of_getElem? (i := 84) rfl)
theorem cd_72_178 : mt_cd 72 178 = some (.invokevirtual 42) := mt_cd_of (q := (178, .invokevirtual 42, 3)) mq_72 ci_72 (List.mem_of_getElem? (i := 85) rfl)
theorem cd_72_181 : mt_cd 72 181 = some (.aload_n 0) := mt_cd_of (q := (181, .aload_n 0, 1)) mq_72 ci_72 (List.mem_of_getElem? (i := 86) rfl)
theorem cd_72_182 : mt_cd 72 182 = some (.getfield 49) := mt_cd_of (q := (182, .getfield 49, 3)) mq_72 ci_72 (List.mem_of_getElem? (i := 87) rfl)
theorem cd_72_185 : mt_cd 72 185 = some (.ireturn) := mt_cd_of (q := (185, .ireturn, 1)) mq_72 ci_72 (List.mem_of_getElem? (i := 88) rfl)
theorem b_72_0 {d : Nat} {Q : (Option Value ⊕ Nat) → mi_H → Prop} (n sl : Nat) (f : Nat → mi_C) {l1 : Nat} {l2 : Nat} {l3 : Nat} {l4 : Int64} {l5 : Int64} {o6 : Option Value} {fs7 : List Value} {x10 : Nat} {fs12 : List Value} (h8 : f l1 = .inr (7, fs7)) (h9 : l1 < n) (h11 : fs7[7]? = some (.ref x10)) (h13 : f x10 = .inr (8, fs12)) (h14 : x10 < n) (h15 : mi_W d 73 0 (mi_en 1 [.ref x10]) [] (n, sl, f) (mi_Kc d 72 4 [some (.ref l1), some (.ref l2), some (.ref l3), some (.long l4), none, some (.long l5), none, o6] [] Q)) : mi_W (d + 1) 72 0 [some (.ref l1), some (.ref l2), some (.ref l3), some (.long l4), none, some (.long l5), none, o6] [] (n, sl, f) Q := by
  refine w_aload_n cd_72_0 rfl ?_
  refine w_getfield cd_72_1 (show mt_f 7 12 = some (7, 7) by decide +kernel) h8 h9 h11 ?_
  exact w_invokevirtual cd_72_4 (show mt_m 7 42 = some (73, 0) by decide +kernel) (rest := []) rfl (as := [.ref x10]) rfl h13 (Or.inl h14) ⟨Nat.le_of_ble_eq_true rfl, Nat.le_of_ble_eq_true rfl, Nat.le_of_ble_eq_true rfl⟩ h15
theorem b_72_7 {d : Nat} {Q : (Option Value ⊕ Nat) → mi_H → Prop} (n sl : Nat) (f : Nat → mi_C) {l1 : Nat} {l2 : Nat} {l3 : Nat} {l4 : Int64} {l5 : Int64} {o6 : Option Value} (h7 : (0 : Int32) ≤ (lg_cmp l5 l4) → mi_W d 72 19 [some (.ref l1), some (.ref l2), some (.ref l3), some (.long l4), none, some (.long l5), none, o6] [.ref l1] (n, sl, f) Q) (h8 : ¬ ((0 : Int32) ≤ (lg_cmp l5 l4)) → mi_W d 72 15 [some (.ref l1), some (.ref l2), some (.ref l3), some (.long l4), none, some (.long l5), none, o6] [.ref l1] (n, sl, f) Q) : mi_W d 72 7 [some (.ref l1), some (.ref l2), some (.ref l3), some (.long l4), none, some (.long l5), none, o6] [] (n, sl, f) Q := by
  refine w_aload_n cd_72_7 rfl ?_
  refine w_lload cd_72_8 rfl ?_
  refine w_lload_n cd_72_10 rfl ?_
  refine w_lcmp cd_72_11 ?_
  exact w_ifge cd_72_12 (by decide) h7 h8
theorem b_72_15 {d : Nat} {Q : (Option Value ⊕ Nat) → mi_H → Prop} (n sl : Nat) (f : Nat → mi_C) {l1 : Nat} {l2 : Nat} {l3 : Nat} {l4 : Int64} {l5 : Int64} {o6 : Option Value} {s7 : Nat} (h8 : mi_W d 72 34 [some (.ref l1), some (.ref l2), some (.ref l3), some (.long l4), none, some (.long l5), none, o6] [.int 1, .ref s7] (n, sl, f) Q) : mi_W d 72 15 [some (.ref l1), some (.ref l2), some (.ref l3), some (.long l4), none, some (.long l5), none, o6] [.ref s7] (n, sl, f) Q := by
  refine w_iconst (v := 1) cd_72_15 (by decide) ?_
  exact w_goto cd_72_16 (by decide) h8
theorem b_72_19 {d : Nat} {Q : (Option Value ⊕ Nat) → mi_H → Prop} (n sl : Nat) (f : Nat → mi_C) {l1 : Nat} {l2 : Nat} {l3 : Nat} {l4 : Int64} {l5 : Int64} {o6 : Option Value} {s7 : Nat} {fs8 : List Value} {x11 : Int64} (h9 : f l2 = .inr (9, fs8)) (h10 : l2 < n) (h12 : fs8[1]? = some (.long x11)) (h13 : (0 : Int32) ≤ (lg_cmp l5 x11) → mi_W d 72 33 [some (.ref l1), some (.ref l2), some (.ref l3), some (.long l4), none, some (.long l5), none, o6] [.ref s7] (n, sl, f) Q) (h14 : ¬ ((0 : Int32) ≤ (lg_cmp l5 x11)) → mi_W d 72 29 [some (.ref l1), some (.ref l2), some (.ref l3), some (.long l4), none, some (.long l5), none, o6] [.ref s7] (n, sl, f) Q) : mi_W d 72 19 [some (.ref l1), some (.ref l2), some (.ref l3), some (.long l4), none, some (.long l5), none, o6] [.ref s7] (n, sl, f) Q := by
  refine w_lload cd_72_19 rfl ?_
  refine w_aload_n cd_72_21 rfl ?_
  refine w_getfield cd_72_22 (show mt_f 7 45 = some (9, 1) by decide +kernel) h9 h10 h12 ?_
  refine w_lcmp cd_72_25 ?_
  exact w_ifge cd_72_26 (by decide) h13 h14
theorem b_72_29 {d : Nat} {Q : (Option Value ⊕ Nat) → mi_H → Prop} (n sl : Nat) (f : Nat → mi_C) {l1 : Nat} {l2 : Nat} {l3 : Nat} {l4 : Int64} {l5 : Int64} {o6 : Option Value} {s7 : Nat} (h8 : mi_W d 72 34 [some (.ref l1), some (.ref l2), some (.ref l3), some (.long l4), none, some (.long l5), none, o6] [.int 2, .ref s7] (n, sl, f) Q) : mi_W d 72 29 [some (.ref l1), some (.ref l2), some (.ref l3), some (.long l4), none, some (.long l5), none, o6] [.ref s7] (n, sl, f) Q := by
  refine w_iconst (v := 2) cd_72_29 (by decide) ?_
  exact w_goto cd_72_30 (by decide) h8
theorem b_72_33 {d : Nat} {Q : (Option Value ⊕ Nat) → mi_H → Prop} (n sl : Nat) (f : Nat → mi_C) {l1 : Nat} {l2 : Nat} {l3 : Nat} {l4 : Int64} {l5 : Int64} {o6 : Option Value} {s7 : Nat} (h8 : mi_W d 72 34 [some (.ref l1), some (.ref l2), some (.ref l3), some (.long l4), none, some (.long l5), none, o6] [.int 0, .ref s7] (n, sl, f) Q) : mi_W d 72 33 [some (.ref l1), some (.ref l2), some (.ref l3), some (.long l4), none, some (.long l5), none, o6] [.ref s7] (n, sl, f) Q := by
  refine w_iconst (v := 0) cd_72_33 (by decide) ?_
  exact h8
theorem b_72_34 {d : Nat} {Q : (Option Value ⊕ Nat) → mi_H → Prop} (n sl : Nat) (f : Nat → mi_C) {l1 : Nat} {l2 : Nat} {l3 : Nat} {l4 : Int64} {l5 : Int64} {o6 : Option Value} {s7 : Int32} {s8 : Nat} {fs9 : List Value} {fs13 : List Value} {x16 : Int32} (h10 : f s8 = .inr (7, fs9)) (h11 : s8 < n) (h12 : 6 < fs9.length) (h14 : (va_up f s8 (.inr (7, fs9.set 6 (.int s7)))) l1 = .inr (7, fs13)) (h15 : l1 < n) (h17 : fs13[6]? = some (.int x16)) (h18 : ¬ x16 = (0 : Int32) → mi_W d 72 89 [some (.ref l1), some (.ref l2), some (.ref l3), some (.long l4), none, some (.long l5), none, o6] [] (n, sl, (va_up f s8 (.inr (7, fs9.set 6 (.int s7))))) Q) (h19 : ¬ (¬ x16 = (0 : Int32)) → mi_W d 72 44 [some (.ref l1), some (.ref l2), some (.ref l3), some (.long l4), none, some (.long l5), none, o6] [] (n, sl, (va_up f s8 (.inr (7, fs9.set 6 (.int s7))))) Q) : mi_W d 72 34 [some (.ref l1), some (.ref l2), some (.ref l3), some (.long l4), none, some (.long l5), none, o6] [.int s7, .ref s8] (n, sl, f) Q := by
  refine w_putfield (w := .int s7) cd_72_34 (show mt_f 7 49 = some (7, 6) by decide +kernel) h10 h11 ⟨h12, rfl, Or.inl (by decide)⟩ ?_
  refine w_aload_n cd_72_37 rfl ?_
  refine w_getfield cd_72_38 (show mt_f 7 49 = some (7, 6) by decide +kernel) h14 h15 h17 ?_
  exact w_ifne cd_72_41 (by decide) h18 h19
theorem b_72_44 {d : Nat} {Q : (Option Value ⊕ Nat) → mi_H → Prop} (n sl : Nat) (f : Nat → mi_C) {l1 : Nat} {l2 : Nat} {l3 : Nat} {l4 : Int64} {l5 : Int64} {o6 : Option Value} {fs7 : List Value} {x10 : Int64} (h8 : f l2 = .inr (9, fs7)) (h9 : l2 < n) (h11 : fs7[1]? = some (.long x10)) (h12 : mi_W d 74 0 (mi_en 4 [.long l4, .long x10]) [] (n, sl, f) (mi_Kc d 72 51 [some (.ref l1), some (.ref l2), some (.ref l3), some (.long l4), none, some (.long l5), none, o6] [.ref l2, .ref l1] Q)) : mi_W (d + 1) 72 44 [some (.ref l1), some (.ref l2), some (.ref l3), some (.long l4), none, some (.long l5), none, o6] [] (n, sl, f) Q := by
  refine w_aload_n cd_72_44 rfl ?_
  refine w_aload_n cd_72_45 rfl ?_
  refine w_lload_n cd_72_46 rfl ?_
  refine w_aload_n cd_72_47 rfl ?_
  refine w_getfield cd_72_48 (show mt_f 7 45 = some (9, 1) by decide +kernel) h8 h9 h11 ?_
  exact w_invokestatic cd_72_51 (show mt_m 7 53 = some (74, 4) by decide +kernel) (by decide) (rest := [.ref l2, .ref l1]) rfl (as := [.long l4, .long x10]) rfl ⟨Nat.le_of_ble_eq_true rfl, Nat.le_of_ble_eq_true rfl, Nat.le_of_ble_eq_true rfl⟩ h12
theorem b_72_54 {d : Nat} {Q : (Option Value ⊕ Nat) → mi_H → Prop} (n sl : Nat) (f : Nat → mi_C) {l1 : Nat} {l2 : Nat} {l3 : Nat} {l4 : Int64} {l5 : Int64} {o6 : Option Value} {s7 : Int64} {s8 : Nat} {s9 : Nat} {fs10 : List Value} (h11 : f s9 = .inr (7, fs10)) (h12 : s9 < n) (h13 : mi_W d 75 0 (mi_en 6 [.ref s9, .ref s8, .long s7, .long l5]) [] (n, sl, f) (mi_Kc d 72 56 [some (.ref l1), some (.ref l2), some (.ref l3), some (.long l4), none, some (.long l5), none, o6] [] Q)) : mi_W (d + 1) 72 54 [some (.ref l1), some (.ref l2), some (.ref l3), some (.long l4), none, some (.long l5), none, o6] [.long s7, .ref s8, .ref s9] (n, sl, f) Q := by
  refine w_lload cd_72_54 rfl ?_
  exact w_invokevirtual cd_72_56 (show mt_m 7 59 = some (75, 0) by decide +kernel) (rest := []) rfl (as := [.ref s9, .ref s8, .long s7, .long l5]) rfl h11 (Or.inl h12) ⟨Nat.le_of_ble_eq_true rfl, Nat.le_of_ble_eq_true rfl, Nat.le_of_ble_eq_true rfl⟩ h13
theorem b_72_59 {d : Nat} {Q : (Option Value ⊕ Nat) → mi_H → Prop} (n sl : Nat) (f : Nat → mi_C) {l1 : Nat} {l2 : Nat} {l3 : Nat} {l4 : Int64} {l5 : Int64} {o6 : Option Value} {fs7 : List Value} (h8 : f l1 = .inr (7, fs7)) (h9 : l1 < n) (h10 : mi_W d 78 0 (mi_en 5 [.ref l1]) [] (n, sl, f) (mi_Kc d 72 60 [some (.ref l1), some (.ref l2), some (.ref l3), some (.long l4), none, some (.long l5), none, o6] [] Q)) : mi_W (d + 1) 72 59 [some (.ref l1), some (.ref l2), some (.ref l3), some (.long l4), none, some (.long l5), none, o6] [] (n, sl, f) Q := by
  refine w_aload_n cd_72_59 rfl ?_
  exact w_invokevirtual cd_72_60 (show mt_m 7 63 = some (78, 0) by decide +kernel) (rest := []) rfl (as := [.ref l1]) rfl h8 (Or.inl h9) ⟨Nat.le_of_ble_eq_true rfl, Nat.le_of_ble_eq_true rfl, Nat.le_of_ble_eq_true rfl⟩ h10
theorem b_72_63 {d : Nat} {Q : (Option Value ⊕ Nat) → mi_H → Prop} (n sl : Nat) (f : Nat → mi_C) {l1 : Nat} {l2 : Nat} {l3 : Nat} {l4 : Int64} {l5 : Int64} {o6 : Option Value} {s7 : Int32} {fs8 : List Value} {x11 : Int32} (h9 : f l1 = .inr (7, fs8)) (h10 : l1 < n) (h12 : fs8[6]? = some (.int x11)) (h13 : ¬ x11 = (0 : Int32) → mi_W d 72 89 [some (.ref l1), some (.ref l2), some (.ref l3), some (.long l4), none, some (.long l5), none, some (.int s7)] [] (n, sl, f) Q) (h14 : ¬ (¬ x11 = (0 : Int32)) → mi_W d 72 72 [some (.ref l1), some (.ref l2), some (.ref l3), some (.long l4), none, some (.long l5), none, some (.int s7)] [] (n, sl, f) Q) : mi_W d 72 63 [some (.ref l1), some (.ref l2), some (.ref l3), some (.long l4), none, some (.long l5), none, o6] [.int s7] (n, sl, f) Q := by
  refine w_istore (ls' := [some (.ref l1), some (.ref l2), some (.ref l3), some (.long l4), none, some (.long l5), none, some (.int s7)]) cd_72_63 (Nat.le_of_ble_eq_true rfl) rfl ?_
  refine w_aload_n cd_72_65 rfl ?_
  refine w_getfield cd_72_66 (show mt_f 7 49 = some (7, 6) by decide +kernel) h9 h10 h12 ?_
  exact w_ifne cd_72_69 (by decide) h13 h14
theorem b_72_72 {d : Nat} {Q : (Option Value ⊕ Nat) → mi_H → Prop} (n sl : Nat) (f : Nat → mi_C) {l1 : Nat} {l2 : Nat} {l3 : Nat} {l4 : Int64} {l5 : Int64} {l6 : Int32} {fs7 : List Value} {x10 : Int32} (h8 : f l3 = .inr (6, fs7)) (h9 : l3 < n) (h11 : fs7[5]? = some (.int x10)) (h12 : ¬ x10 = (0 : Int32) → mi_W d 72 89 [some (.ref l1), some (.ref l2), some (.ref l3), some (.long l4), none, some (.long l5), none, some (.int l6)] [] (n, sl, f) Q) (h13 : ¬ (¬ x10 = (0 : Int32)) → mi_W d 72 79 [some (.ref l1), some (.ref l2), some (.ref l3), some (.long l4), none, some (.long l5), none, some (.int l6)] [] (n, sl, f) Q) : mi_W d 72 72 [some (.ref l1), some (.ref l2), some (.ref l3), some (.long l4), none, some (.long l5), none, some (.int l6)] [] (n, sl, f) Q := by
  refine w_aload_n cd_72_72 rfl ?_
  refine w_getfield cd_72_73 (show mt_f 7 67 = some (6, 5) by decide +kernel) h8 h9 h11 ?_
  exact w_ifne cd_72_76 (by decide) h12 h13
theorem b_72_79 {d : Nat} {Q : (Option Value ⊕ Nat) → mi_H → Prop} (n sl : Nat) (f : Nat → mi_C) {l1 : Nat} {l2 : Nat} {l3 : Nat} {l4 : Int64} {l5 : Int64} {l6 : Int32} (h7 : ¬ l6 = (0 : Int32) → mi_W d 72 89 [some (.ref l1), some (.ref l2), some (.ref l3), some (.long l4), none, some (.long l5), none, some (.int l6)] [] (n, sl, f) Q) (h8 : ¬ (¬ l6 = (0 : Int32)) → mi_W d 72 84 [some (.ref l1), some (.ref l2), some (.ref l3), some (.long l4), none, some (.long l5), none, some (.int l6)] [] (n, sl, f) Q) : mi_W d 72 79 [some (.ref l1), some (.ref l2), some (.ref l3), some (.long l4), none, some (.long l5), none, some (.int l6)] [] (n, sl, f) Q := by
  refine w_iload cd_72_79 rfl ?_
  exact w_ifne cd_72_81 (by decide) h7 h8
theorem b_72_84 {d : Nat} {Q : (Option Value ⊕ Nat) → mi_H → Prop} (n sl : Nat) (f : Nat → mi_C) {l1 : Nat} {l2 : Nat} {l3 : Nat} {l4 : Int64} {l5 : Int64} {l6 : Int32} {fs7 : List Value} (h8 : f l1 = .inr (7, fs7)) (h9 : l1 < n) (h10 : 6 < fs7.length) (h11 : mi_W d 72 89 [some (.ref l1), some (.ref l2), some (.ref l3), some (.long l4), none, some (.long l5), none, some (.int l6)] [] (n, sl, (va_up f l1 (.inr (7, fs7.set 6 (.int 5))))) Q) : mi_W d 72 84 [some (.ref l1), some (.ref l2), some (.ref l3), some (.long l4), none, some (.long l5), none, some (.int l6)] [] (n, sl, f) Q := by
  refine w_aload_n cd_72_84 rfl ?_
  refine w_iconst (v := 5) cd_72_85 (by decide) ?_
  refine w_putfield (w := .int 5) cd_72_86 (show mt_f 7 49 = some (7, 6) by decide +kernel) h8 h9 ⟨h10, rfl, Or.inl (by decide)⟩ ?_
  exact h11
theorem b_72_89 {d : Nat} {Q : (Option Value ⊕ Nat) → mi_H → Prop} (n sl : Nat) (f : Nat → mi_C) {l1 : Nat} {l2 : Nat} {l3 : Nat} {l4 : Int64} {l5 : Int64} {o6 : Option Value} (h7 : mi_W d 72 92 [some (.ref l1), some (.ref l2), some (.ref l3), some (.long l4), none, some (.long l5), none, some (.int 0)] [] (n, sl, f) Q) : mi_W d 72 89 [some (.ref l1), some (.ref l2), some (.ref l3), some (.long l4), none, some (.long l5), none, o6] [] (n, sl, f) Q := by
  refine w_iconst (v := 0) cd_72_89 (by decide) ?_
  refine w_istore (ls' := [some (.ref l1), some (.ref l2), some (.ref l3), some (.long l4), none, some (.long l5), none, some (.int 0)]) cd_72_90 (Nat.le_of_ble_eq_true rfl) rfl ?_
  exact h7
theorem b_72_92 {d : Nat} {Q : (Option Value ⊕ Nat) → mi_H → Prop} (n sl : Nat) (f : Nat → mi_C) {l1 : Nat} {l2 : Nat} {l3 : Nat} {l4 : Int64} {l5 : Int64} {l6 : Int32} {fs7 : List Value} {x10 : Int32} (h8 : f l3 = .inr (6, fs7)) (h9 : l3 < n) (h11 : fs7[5]? = some (.int x10)) (h12 : x10 ≤ l6 → mi_W d 72 133 [some (.ref l1), some (.ref l2), some (.ref l3), some (.long l4), none, some (.long l5), none, some (.int l6)] [] (n, sl, f) Q) (h13 : ¬ (x10 ≤ l6) → mi_W d 72 101 [some (.ref l1), some (.ref l2), some (.ref l3), some (.long l4), none, some (.long l5), none, some (.int l6)] [] (n, sl, f) Q) : mi_W d 72 92 [some (.ref l1), some (.ref l2), some (.ref l3), some (.long l4), none, some (.long l5), none, some (.int l6)] [] (n, sl, f) Q := by
  refine w_iload cd_72_92 rfl ?_
  refine w_aload_n cd_72_94 rfl ?_
  refine w_getfield cd_72_95 (show mt_f 7 67 = some (6, 5) by decide +kernel) h8 h9 h11 ?_
  exact w_if_icmpge cd_72_98 (by decide) h12 h13
theorem b_72_101 {d : Nat} {Q : (Option Value ⊕ Nat) → mi_H → Prop} (n sl : Nat) (f : Nat → mi_C) {l1 : Nat} {l2 : Nat} {l3 : Nat} {l4 : Int64} {l5 : Int64} {l6 : Int32} (h7 : 16 ≤ l6 → mi_W d 72 133 [some (.ref l1), some (.ref l2), some (.ref l3), some (.long l4), none, some (.long l5), none, some (.int l6)] [] (n, sl, f) Q) (h8 : ¬ (16 ≤ l6) → mi_W d 72 108 [some (.ref l1), some (.ref l2), some (.ref l3), some (.long l4), none, some (.long l5), none, some (.int l6)] [] (n, sl, f) Q) : mi_W d 72 101 [some (.ref l1), some (.ref l2), some (.ref l3), some (.long l4), none, some (.long l5), none, some (.int l6)] [] (n, sl, f) Q := by
  refine w_iload cd_72_101 rfl ?_
  refine w_bipush (v := 16) cd_72_103 (by decide) ?_
  exact w_if_icmpge cd_72_105 (by decide) h7 h8
theorem b_72_108 {d : Nat} {Q : (Option Value ⊕ Nat) → mi_H → Prop} (n sl : Nat) (f : Nat → mi_C) {l1 : Nat} {l2 : Nat} {l3 : Nat} {l4 : Int64} {l5 : Int64} {l6 : Int32} {fs7 : List Value} {x10 : Int32} (h8 : f l1 = .inr (7, fs7)) (h9 : l1 < n) (h11 : fs7[6]? = some (.int x10)) (h12 : ¬ x10 = (0 : Int32) → mi_W d 72 133 [some (.ref l1), some (.ref l2), some (.ref l3), some (.long l4), none, some (.long l5), none, some (.int l6)] [] (n, sl, f) Q) (h13 : ¬ (¬ x10 = (0 : Int32)) → mi_W d 72 115 [some (.ref l1), some (.ref l2), some (.ref l3), some (.long l4), none, some (.long l5), none, some (.int l6)] [] (n, sl, f) Q) : mi_W d 72 108 [some (.ref l1), some (.ref l2), some (.ref l3), some (.long l4), none, some (.long l5), none, some (.int l6)] [] (n, sl, f) Q := by
  refine w_aload_n cd_72_108 rfl ?_
  refine w_getfield cd_72_109 (show mt_f 7 49 = some (7, 6) by decide +kernel) h8 h9 h11 ?_
  exact w_ifne cd_72_112 (by decide) h12 h13
theorem b_72_115 {d : Nat} {Q : (Option Value ⊕ Nat) → mi_H → Prop} (n sl : Nat) (f : Nat → mi_C) {l1 : Nat} {l2 : Nat} {l3 : Nat} {l4 : Int64} {l5 : Int64} {l6 : Int32} {fs7 : List Value} (h8 : f l1 = .inr (7, fs7)) (h9 : l1 < n) (h10 : mi_W d 103 0 (mi_en 7 [.ref l1, .ref l3, .int l6]) [] (n, sl, f) (mi_Kc d 72 119 [some (.ref l1), some (.ref l2), some (.ref l3), some (.long l4), none, some (.long l5), none, some (.int l6)] [] Q)) : mi_W (d + 1) 72 115 [some (.ref l1), some (.ref l2), some (.ref l3), some (.long l4), none, some (.long l5), none, some (.int l6)] [] (n, sl, f) Q := by
  refine w_aload_n cd_72_115 rfl ?_
  refine w_aload_n cd_72_116 rfl ?_
  refine w_iload cd_72_117 rfl ?_
  exact w_invokevirtual cd_72_119 (show mt_m 7 72 = some (103, 0) by decide +kernel) (rest := []) rfl (as := [.ref l1, .ref l3, .int l6]) rfl h8 (Or.inl h9) ⟨Nat.le_of_ble_eq_true rfl, Nat.le_of_ble_eq_true rfl, Nat.le_of_ble_eq_true rfl⟩ h10
theorem b_72_122 {d : Nat} {Q : (Option Value ⊕ Nat) → mi_H → Prop} (n sl : Nat) (f : Nat → mi_C) {l1 : Nat} {l2 : Nat} {l3 : Nat} {l4 : Int64} {l5 : Int64} {l6 : Int32} {fs7 : List Value} (h8 : f l1 = .inr (7, fs7)) (h9 : l1 < n) (h10 : mi_W d 78 0 (mi_en 5 [.ref l1]) [] (n, sl, f) (mi_Kc d 72 123 [some (.ref l1), some (.ref l2), some (.ref l3), some (.long l4), none, some (.long l5), none, some (.int l6)] [] Q)) : mi_W (d + 1) 72 122 [some (.ref l1), some (.ref l2), some (.ref l3), some (.long l4), none, some (.long l5), none, some (.int l6)] [] (n, sl, f) Q := by
  refine w_aload_n cd_72_122 rfl ?_
  exact w_invokevirtual cd_72_123 (show mt_m 7 63 = some (78, 0) by decide +kernel) (rest := []) rfl (as := [.ref l1]) rfl h8 (Or.inl h9) ⟨Nat.le_of_ble_eq_true rfl, Nat.le_of_ble_eq_true rfl, Nat.le_of_ble_eq_true rfl⟩ h10
theorem b_72_126 {d : Nat} {Q : (Option Value ⊕ Nat) → mi_H → Prop} (n sl : Nat) (f : Nat → mi_C) {l1 : Nat} {l2 : Nat} {l3 : Nat} {l4 : Int64} {l5 : Int64} {l6 : Int32} {s7 : Int32} (h8 : mi_W d 72 92 [some (.ref l1), some (.ref l2), some (.ref l3), some (.long l4), none, some (.long l5), none, some (.int (l6 + 1))] [] (n, sl, f) Q) : mi_W d 72 126 [some (.ref l1), some (.ref l2), some (.ref l3), some (.long l4), none, some (.long l5), none, some (.int l6)] [.int s7] (n, sl, f) Q := by
  refine w_pop_i cd_72_126 ?_
  refine w_iinc (v := 1) (ls' := [some (.ref l1), some (.ref l2), some (.ref l3), some (.long l4), none, some (.long l5), none, some (.int (l6 + 1))]) cd_72_127 rfl (by decide) rfl ?_
  exact w_goto cd_72_130 (by decide) h8
theorem b_72_133 {d : Nat} {Q : (Option Value ⊕ Nat) → mi_H → Prop} (n sl : Nat) (f : Nat → mi_C) {l1 : Nat} {l2 : Nat} {l3 : Nat} {l4 : Int64} {l5 : Int64} {l6 : Int32} {fs7 : List Value} {x10 : Int32} (h8 : f l1 = .inr (7, fs7)) (h9 : l1 < n) (h11 : fs7[6]? = some (.int x10)) (h12 : ¬ x10 = (0 : Int32) → mi_W d 72 167 [some (.ref l1), some (.ref l2), some (.ref l3), some (.long l4), none, some (.long l5), none, some (.int l6)] [] (n, sl, f) Q) (h13 : ¬ (¬ x10 = (0 : Int32)) → mi_W d 72 140 [some (.ref l1), some (.ref l2), some (.ref l3), some (.long l4), none, some (.long l5), none, some (.int l6)] [] (n, sl, f) Q) : mi_W d 72 133 [some (.ref l1), some (.ref l2), some (.ref l3), some (.long l4), none, some (.long l5), none, some (.int l6)] [] (n, sl, f) Q := by
  refine w_aload_n cd_72_133 rfl ?_
  refine w_getfield cd_72_134 (show mt_f 7 49 = some (7, 6) by decide +kernel) h8 h9 h11 ?_
  exact w_ifne cd_72_137 (by decide) h12 h13
theorem b_72_140 {d : Nat} {Q : (Option Value ⊕ Nat) → mi_H → Prop} (n sl : Nat) (f : Nat → mi_C) {l1 : Nat} {l2 : Nat} {l3 : Nat} {l4 : Int64} {l5 : Int64} {l6 : Int32} {fs7 : List Value} {w10 : Value} (h8 : f l1 = .inr (7, fs7)) (h9 : l1 < n) (h11 : fs7[1]? = some (w10)) (h12 : w10 = .null → mi_W d 72 167 [some (.ref l1), some (.ref l2), some (.ref l3), some (.long l4), none, some (.long l5), none, some (.int l6)] [] (n, sl, f) Q) (h13 : ∀ q : Nat, w10 = .ref q → mi_W d 72 147 [some (.ref l1), some (.ref l2), some (.ref l3), some (.long l4), none, some (.long l5), none, some (.int l6)] [] (n, sl, f) Q) (h14 : w10.isRef = true) : mi_W d 72 140 [some (.ref l1), some (.ref l2), some (.ref l3), some (.long l4), none, some (.long l5), none, some (.int l6)] [] (n, sl, f) Q := by
  refine w_aload_n cd_72_140 rfl ?_
  refine w_getfield cd_72_141 (show mt_f 7 22 = some (7, 1) by decide +kernel) h8 h9 h11 ?_
  
  cases w10 with
  | null => exact w_ifnull_n cd_72_144 (by decide) (h12 rfl)
  | ref q => exact w_ifnull_r cd_72_144 (h13 q rfl)
  | _ => cases h14
theorem b_72_147 {d : Nat} {Q : (Option Value ⊕ Nat) → mi_H → Prop} (n sl : Nat) (f : Nat → mi_C) {l1 : Nat} {l2 : Nat} {l3 : Nat} {l4 : Int64} {l5 : Int64} {l6 : Int32} {fs7 : List Value} {x10 : Nat} {fs12 : List Value} {x15 : Nat} {fs17 : List Value} (h8 : f l1 = .inr (7, fs7)) (h9 : l1 < n) (h11 : fs7[1]? = some (.ref x10)) (h13 : f l1 = .inr (7, fs12)) (h14 : l1 < n) (h16 : fs12[7]? = some (.ref x15)) (h18 : f x10 = .inr (5, fs17)) (h19 : x10 < n) (h20 : mi_W d 110 0 (mi_en 4 [.ref x10, .ref x15]) [] (n, sl, f) (mi_Kc d 72 155 [some (.ref l1), some (.ref l2), some (.ref l3), some (.long l4), none, some (.long l5), none, some (.int l6)] [] Q)) : mi_W (d + 1) 72 147 [some (.ref l1), some (.ref l2), some (.ref l3), some (.long l4), none, some (.long l5), none, some (.int l6)] [] (n, sl, f) Q := by
  refine w_aload_n cd_72_147 rfl ?_
  refine w_getfield cd_72_148 (show mt_f 7 22 = some (7, 1) by decide +kernel) h8 h9 h11 ?_
  refine w_aload_n cd_72_151 rfl ?_
  refine w_getfield cd_72_152 (show mt_f 7 12 = some (7, 7) by decide +kernel) h13 h14 h16 ?_
  exact w_invokevirtual cd_72_155 (show mt_m 7 76 = some (110, 0) by decide +kernel) (rest := []) rfl (as := [.ref x10, .ref x15]) rfl h18 (Or.inl h19) ⟨Nat.le_of_ble_eq_true rfl, Nat.le_of_ble_eq_true rfl, Nat.le_of_ble_eq_true rfl⟩ h20
theorem b_72_158 {d : Nat} {Q : (Option Value ⊕ Nat) → mi_H → Prop} (n sl : Nat) (f : Nat → mi_C) {l1 : Nat} {l2 : Nat} {l3 : Nat} {l4 : Int64} {l5 : Int64} {l6 : Int32} {s7 : Int32} (h8 : ¬ s7 = (0 : Int32) → mi_W d 72 167 [some (.ref l1), some (.ref l2), some (.ref l3), some (.long l4), none, some (.long l5), none, some (.int l6)] [] (n, sl, f) Q) (h9 : ¬ (¬ s7 = (0 : Int32)) → mi_W d 72 161 [some (.ref l1), some (.ref l2), some (.ref l3), some (.long l4), none, some (.long l5), none, some (.int l6)] [] (n, sl, f) Q) : mi_W d 72 158 [some (.ref l1), some (.ref l2), some (.ref l3), some (.long l4), none, some (.long l5), none, some (.int l6)] [.int s7] (n, sl, f) Q := by
  exact w_ifne cd_72_158 (by decide) h8 h9
theorem b_72_161 {d : Nat} {Q : (Option Value ⊕ Nat) → mi_H → Prop} (n sl : Nat) (f : Nat → mi_C) {l1 : Nat} {l2 : Nat} {l3 : Nat} {l4 : Int64} {l5 : Int64} {l6 : Int32} {fs7 : List Value} (h8 : f l1 = .inr (7, fs7)) (h9 : l1 < n) (h10 : 6 < fs7.length) (h11 : mi_W d 72 167 [some (.ref l1), some (.ref l2), some (.ref l3), some (.long l4), none, some (.long l5), none, some (.int l6)] [] (n, sl, (va_up f l1 (.inr (7, fs7.set 6 (.int 6))))) Q) : mi_W d 72 161 [some (.ref l1), some (.ref l2), some (.ref l3), some (.long l4), none, some (.long l5), none, some (.int l6)] [] (n, sl, f) Q := by
  refine w_aload_n cd_72_161 rfl ?_
  refine w_bipush (v := 6) cd_72_162 (by decide) ?_
  refine w_putfield (w := .int 6) cd_72_164 (show mt_f 7 49 = some (7, 6) by decide +kernel) h8 h9 ⟨h10, rfl, Or.inl (by decide)⟩ ?_
  exact h11
theorem b_72_167 {d : Nat} {Q : (Option Value ⊕ Nat) → mi_H → Prop} (n sl : Nat) (f : Nat → mi_C) {l1 : Nat} {l2 : Nat} {l3 : Nat} {l4 : Int64} {l5 : Int64} {l6 : Int32} {fs7 : List Value} {x10 : Int32} (h8 : f l1 = .inr (7, fs7)) (h9 : l1 < n) (h11 : fs7[6]? = some (.int x10)) (h12 : x10 = (0 : Int32) → mi_W d 72 181 [some (.ref l1), some (.ref l2), some (.ref l3), some (.long l4), none, some (.long l5), none, some (.int l6)] [] (n, sl, f) Q) (h13 : ¬ (x10 = (0 : Int32)) → mi_W d 72 174 [some (.ref l1), some (.ref l2), some (.ref l3), some (.long l4), none, some (.long l5), none, some (.int l6)] [] (n, sl, f) Q) : mi_W d 72 167 [some (.ref l1), some (.ref l2), some (.ref l3), some (.long l4), none, some (.long l5), none, some (.int l6)] [] (n, sl, f) Q := by
  refine w_aload_n cd_72_167 rfl ?_
  refine w_getfield cd_72_168 (show mt_f 7 49 = some (7, 6) by decide +kernel) h8 h9 h11 ?_
  exact w_ifeq cd_72_171 (by decide) h12 h13
theorem b_72_174 {d : Nat} {Q : (Option Value ⊕ Nat) → mi_H → Prop} (n sl : Nat) (f : Nat → mi_C) {l1 : Nat} {l2 : Nat} {l3 : Nat} {l4 : Int64} {l5 : Int64} {l6 : Int32} {fs7 : List Value} {x10 : Nat} {fs12 : List Value} (h8 : f l1 = .inr (7, fs7)) (h9 : l1 < n) (h11 : fs7[7]? = some (.ref x10)) (h13 : f x10 = .inr (8, fs12)) (h14 : x10 < n) (h15 : mi_W d 73 0 (mi_en 1 [.ref x10]) [] (n, sl, f) (mi_Kc d 72 178 [some (.ref l1), some (.ref l2), some (.ref l3), some (.long l4), none, some (.long l5), none, some (.int l6)] [] Q)) : mi_W (d + 1) 72 174 [some (.ref l1), some (.ref l2), some (.ref l3), some (.long l4), none, some (.long l5), none, some (.int l6)] [] (n, sl, f) Q := by
  refine w_aload_n cd_72_174 rfl ?_
  refine w_getfield cd_72_175 (show mt_f 7 12 = some (7, 7) by decide +kernel) h8 h9 h11 ?_
  exact w_invokevirtual cd_72_178 (show mt_m 7 42 = some (73, 0) by decide +kernel) (rest := []) rfl (as := [.ref x10]) rfl h13 (Or.inl h14) ⟨Nat.le_of_ble_eq_true rfl, Nat.le_of_ble_eq_true rfl, Nat.le_of_ble_eq_true rfl⟩ h15
theorem b_72_181 {d : Nat} {Q : (Option Value ⊕ Nat) → mi_H → Prop} (n sl : Nat) (f : Nat → mi_C) {l1 : Nat} {l2 : Nat} {l3 : Nat} {l4 : Int64} {l5 : Int64} {l6 : Int32} {fs7 : List Value} {x10 : Int32} (h8 : f l1 = .inr (7, fs7)) (h9 : l1 < n) (h11 : fs7[6]? = some (.int x10)) (h12 : Q (.inl (some (.int x10))) (n, sl, f)) : mi_W d 72 181 [some (.ref l1), some (.ref l2), some (.ref l3), some (.long l4), none, some (.long l5), none, some (.int l6)] [] (n, sl, f) Q := by
  refine w_aload_n cd_72_181 rfl ?_
  refine w_getfield cd_72_182 (show mt_f 7 49 = some (7, 6) by decide +kernel) h8 h9 h11 ?_
  exact w_ireturn_i cd_72_185 (by decide +kernel) h12
/-! MarloweHost$Events.clear()V -/
set_option maxRecDepth 100000 in
theorem mq_73 : mt_q 73 = my_73 := rfl
set_option maxRecDepth 100000 in
theorem ci_73 : mt_inc 0 my_73.cd = true := by decide +kernel
theorem cd_73_0 : mt_cd 73 0 = some (.aload_n 0) := mt_cd_of (q := (0, .aload_n 0, 1)) mq_73 ci_73 (List.mem_of_getElem? (i := 0) rfl)
theorem cd_73_1 : mt_cd 73 1 = some (.iconst 0) := mt_cd_of (q := (1, .iconst 0, 1)) mq_73 ci_73 (List.mem_of_getElem? (i := 1) rfl)
theorem cd_73_2 : mt_cd 73 2 = some (.putfield 31) := mt_cd_of (q := (2, .putfield 31, 3)) mq_73 ci_73 (List.mem_of_getElem? (i := 2) rfl)
theorem cd_73_5 : mt_cd 73 5 = some (.aload_n 0) := mt_cd_of (q := (5, .aload_n 0, 1)) mq_73 ci_73 (List.mem_of_getElem? (i := 3) rfl)
theorem cd_73_6 : mt_cd 73 6 = some (.iconst 0) := mt_cd_of (q := (6, .iconst 0, 1)) mq_73 ci_73 (List.mem_of_getElem? (i := 4) rfl)
theorem cd_73_7 : mt_cd 73 7 = some (.putfield 35) := mt_cd_of (q := (7, .putfield 35, 3)) mq_73 ci_73 (List.mem_of_getElem? (i := 5) rfl)
theorem cd_73_10 : mt_cd 73 10 = some (.return_) := mt_cd_of (q := (10, .return_, 1)) mq_73 ci_73 (List.mem_of_getElem? (i := 6) rfl)
theorem b_73_0 {d : Nat} {Q : (Option Value ⊕ Nat) → mi_H → Prop} (n sl : Nat) (f : Nat → mi_C) {l1 : Nat} {fs2 : List Value} {fs6 : List Value} (h3 : f l1 = .inr (8, fs2)) (h4 : l1 < n) (h5 : 6 < fs2.length) (h7 : (va_up f l1 (.inr (8, fs2.set 6 (.int 0)))) l1 = .inr (8, fs6)) (h8 : l1 < n) (h9 : 7 < fs6.length) (h10 : Q (.inl none) (n, sl, (va_up (va_up f l1 (.inr (8, fs2.set 6 (.int 0)))) l1 (.inr (8, fs6.set 7 (.int 0)))))) : mi_W d 73 0 [some (.ref l1)] [] (n, sl, f) Q := by
  refine w_aload_n cd_73_0 rfl ?_
  refine w_iconst (v := 0) cd_73_1 (by decide) ?_
  refine w_putfield (w := .int 0) cd_73_2 (show mt_f 8 31 = some (8, 6) by decide +kernel) h3 h4 ⟨h5, rfl, Or.inl (by decide)⟩ ?_
  refine w_aload_n cd_73_5 rfl ?_
  refine w_iconst (v := 0) cd_73_6 (by decide) ?_
  refine w_putfield (w := .int 0) cd_73_7 (show mt_f 8 35 = some (8, 7) by decide +kernel) h7 h8 ⟨h9, rfl, Or.inl (by decide)⟩ ?_
  exact w_return cd_73_10 (by decide +kernel) h10
/-! MarloweHost$Machine.enter(LMarloweHost$Situation;JJ)V -/
set_option maxRecDepth 100000 in
theorem mq_75 : mt_q 75 = my_75 := rfl
set_option maxRecDepth 100000 in
theorem ci_75 : mt_inc 0 my_75.cd = true := by decide +kernel
theorem cd_75_0 : mt_cd 75 0 = some (.aload_n 0) := mt_cd_of (q := (0, .aload_n 0, 1)) mq_75 ci_75 (List.mem_of_getElem? (i := 0) rfl)
theorem cd_75_1 : mt_cd 75 1 = some (.aload_n 1) := mt_cd_of (q := (1, .aload_n 1, 1)) mq_75 ci_75 (List.mem_of_getElem? (i := 1) rfl)
theorem cd_75_2 : mt_cd 75 2 = some (.putfield 29) := mt_cd_of (q := (2, .putfield 29, 3)) mq_75 ci_75 (List.mem_of_getElem? (i := 2) rfl)
theorem cd_75_5 : mt_cd 75 5 = some (.aload_n 0) := mt_cd_of (q := (5, .aload_n 0, 1)) mq_75 ci_75 (List.mem_of_getElem? (i := 3) rfl)
theorem cd_75_6 : mt_cd 75 6 = some (.lload_n 2) := mt_cd_of (q := (6, .lload_n 2, 1)) mq_75 ci_75 (List.mem_of_getElem? (i := 4) rfl)
theorem cd_75_7 : mt_cd 75 7 = some (.putfield 82) := mt_cd_of (q := (7, .putfield 82, 3)) mq_75 ci_75 (List.mem_of_getElem? (i := 5) rfl)
theorem cd_75_10 : mt_cd 75 10 = some (.aload_n 0) := mt_cd_of (q := (10, .aload_n 0, 1)) mq_75 ci_75 (List.mem_of_getElem? (i := 6) rfl)
theorem cd_75_11 : mt_cd 75 11 = some (.lload 4) := mt_cd_of (q := (11, .lload 4, 2)) mq_75 ci_75 (List.mem_of_getElem? (i := 7) rfl)
theorem cd_75_13 : mt_cd 75 13 = some (.putfield 85) := mt_cd_of (q := (13, .putfield 85, 3)) mq_75 ci_75 (List.mem_of_getElem? (i := 8) rfl)
theorem cd_75_16 : mt_cd 75 16 = some (.aload_n 0) := mt_cd_of (q := (16, .aload_n 0, 1)) mq_75 ci_75 (List.mem_of_getElem? (i := 9) rfl)
theorem cd_75_17 : mt_cd 75 17 = some (.getfield 29) := mt_cd_of (q := (17, .getfield 29, 3)) mq_75 ci_75 (List.mem_of_getElem? (i := 10) rfl)
theorem cd_75_20 : mt_cd 75 20 = some (.aload_n 0) := mt_cd_of (q := (20, .aload_n 0, 1)) mq_75 ci_75 (List.mem_of_getElem? (i := 11) rfl)
theorem cd_75_21 : mt_cd 75 21 = some (.getfield 82) := mt_cd_of (q := (21, .getfield 82, 3)) mq_75 ci_75 (List.mem_of_getElem? (i := 12) rfl)
theorem cd_75_24 : mt_cd 75 24 = some (.putfield 45) := mt_cd_of (q := (24, .putfield 45, 3)) mq_75 ci_75 (List.mem_of_getElem? (i := 13) rfl)
theorem cd_75_27 : mt_cd 75 27 = some (.aload_n 0) := mt_cd_of (q := (27, .aload_n 0, 1)) mq_75 ci_75 (List.mem_of_getElem? (i := 14) rfl)
theorem cd_75_28 : mt_cd 75 28 = some (.getfield 38) := mt_cd_of (q := (28, .getfield 38, 3)) mq_75 ci_75 (List.mem_of_getElem? (i := 15) rfl)
theorem cd_75_31 : mt_cd 75 31 = some (.aload_n 0) := mt_cd_of (q := (31, .aload_n 0, 1)) mq_75 ci_75 (List.mem_of_getElem? (i := 16) rfl)
theorem cd_75_32 : mt_cd 75 32 = some (.getfield 29) := mt_cd_of (q := (32, .getfield 29, 3)) mq_75 ci_75 (List.mem_of_getElem? (i := 17) rfl)
theorem cd_75_35 : mt_cd 75 35 = some (.aload_n 0) := mt_cd_of (q := (35, .aload_n 0, 1)) mq_75 ci_75 (List.mem_of_getElem? (i := 18) rfl)
theorem cd_75_36 : mt_cd 75 36 = some (.getfield 82) := mt_cd_of (q := (36, .getfield 82, 3)) mq_75 ci_75 (List.mem_of_getElem? (i := 19) rfl)
theorem cd_75_39 : mt_cd 75 39 = some (.aload_n 0) := mt_cd_of (q := (39, .aload_n 0, 1)) mq_75 ci_75 (List.mem_of_getElem? (i := 20) rfl)
theorem cd_75_40 : mt_cd 75 40 = some (.getfield 85) := mt_cd_of (q := (40, .getfield 85, 3)) mq_75 ci_75 (List.mem_of_getElem? (i := 21) rfl)
theorem cd_75_43 : mt_cd 75 43 = some (.invokevirtual 88) := mt_cd_of (q := (43, .invokevirtual 88, 3)) mq_75 ci_75 (List.mem_of_getElem? (i := 22) rfl)
theorem cd_75_46 : mt_cd 75 46 = some (.aload_n 0) := mt_cd_of (q := (46, .aload_n 0, 1)) mq_75 ci_75 (List.mem_of_getElem? (i := 23) rfl)
theorem cd_75_47 : mt_cd 75 47 = some (.getfield 22) := mt_cd_of (q := (47, .getfield 22, 3)) mq_75 ci_75 (List.mem_of_getElem? (i := 24) rfl)
theorem cd_75_50 : mt_cd 75 50 = some (.ifnull 10) := mt_cd_of (q := (50, .ifnull 10, 3)) mq_75 ci_75 (List.mem_of_getElem? (i := 25) rfl)
theorem cd_75_53 : mt_cd 75 53 = some (.aload_n 0) := mt_cd_of (q := (53, .aload_n 0, 1)) mq_75 ci_75 (List.mem_of_getElem? (i := 26) rfl)
theorem cd_75_54 : mt_cd 75 54 = some (.getfield 22) := mt_cd_of (q := (54, .getfield 22, 3)) mq_75 ci_75 (List.mem_of_getElem? (i := 27) rfl)
theorem cd_75_57 : mt_cd 75 57 = some (.invokevirtual 91) := mt_cd_of (q := (57, .invokevirtual 91, 3)) mq_75 ci_75 (List.mem_of_getElem? (i := 28) rfl)
theorem cd_75_60 : mt_cd 75 60 = some (.return_) := mt_cd_of (q := (60, .return_, 1)) mq_75 ci_75 (List.mem_of_getElem? (i := 29) rfl)
theorem b_75_0 {d : Nat} {Q : (Option Value ⊕ Nat) → mi_H → Prop} (n sl : Nat) (f : Nat → mi_C) {l1 : Nat} {l2 : Nat} {l3 : Int64} {l4 : Int64} {fs5 : List Value} {fs9 : List Value} {fs13 : List Value} {fs17 : List Value} {x20 : Nat} {fs22 : List Value} {x25 : Int64} {fs27 : List Value} {fs31 : List Value} {x34 : Nat} {fs36 : List Value} {x39 : Nat} {fs41 : List Value} {x44 : Int64} {fs46 : List Value} {x49 : Int64} {fs51 : List Value} (h6 : f l1 = .inr (7, fs5)) (h7 : l1 < n) (h8 : 3 < fs5.length) (h10 : (va_up f l1 (.inr (7, fs5.set 3 (.ref l2)))) l1 = .inr (7, fs9)) (h11 : l1 < n) (h12 : 4 < fs9.length) (h14 : (va_up (va_up f l1 (.inr (7, fs5.set 3 (.ref l2)))) l1 (.inr (7, fs9.set 4 (.long l3)))) l1 = .inr (7, fs13)) (h15 : l1 < n) (h16 : 5 < fs13.length) (h18 : (va_up (va_up (va_up f l1 (.inr (7, fs5.set 3 (.ref l2)))) l1 (.inr (7, fs9.set 4 (.long l3)))) l1 (.inr (7, fs13.set 5 (.long l4)))) l1 = .inr (7, fs17)) (h19 : l1 < n) (h21 : fs17[3]? = some (.ref x20)) (h23 : (va_up (va_up (va_up f l1 (.inr (7, fs5.set 3 (.ref l2)))) l1 (.inr (7, fs9.set 4 (.long l3)))) l1 (.inr (7, fs13.set 5 (.long l4)))) l1 = .inr (7, fs22)) (h24 : l1 < n) (h26 : fs22[4]? = some (.long x25)) (h28 : (va_up (va_up (va_up f l1 (.inr (7, fs5.set 3 (.ref l2)))) l1 (.inr (7, fs9.set 4 (.long l3)))) l1 (.inr (7, fs13.set 5 (.long l4)))) x20 = .inr (9, fs27)) (h29 : x20 < n) (h30 : 1 < fs27.length) (h32 : (va_up (va_up (va_up (va_up f l1 (.inr (7, fs5.set 3 (.ref l2)))) l1 (.inr (7, fs9.set 4 (.long l3)))) l1 (.inr (7, fs13.set 5 (.long l4)))) x20 (.inr (9, fs27.set 1 (.long x25)))) l1 = .inr (7, fs31)) (h33 : l1 < n) (h35 : fs31[2]? = some (.ref x34)) (h37 : (va_up (va_up (va_up (va_up f l1 (.inr (7, fs5.set 3 (.ref l2)))) l1 (.inr (7, fs9.set 4 (.long l3)))) l1 (.inr (7, fs13.set 5 (.long l4)))) x20 (.inr (9, fs27.set 1 (.long x25)))) l1 = .inr (7, fs36)) (h38 : l1 < n) (h40 : fs36[3]? = some (.ref x39)) (h42 : (va_up (va_up (va_up (va_up f l1 (.inr (7, fs5.set 3 (.ref l2)))) l1 (.inr (7, fs9.set 4 (.long l3)))) l1 (.inr (7, fs13.set 5 (.long l4)))) x20 (.inr (9, fs27.set 1 (.long x25)))) l1 = .inr (7, fs41)) (h43 : l1 < n) (h45 : fs41[4]? = some (.long x44)) (h47 : (va_up (va_up (va_up (va_up f l1 (.inr (7, fs5.set 3 (.ref l2)))) l1 (.inr (7, fs9.set 4 (.long l3)))) l1 (.inr (7, fs13.set 5 (.long l4)))) x20 (.inr (9, fs27.set 1 (.long x25)))) l1 = .inr (7, fs46)) (h48 : l1 < n) (h50 : fs46[5]? = some (.long x49)) (h52 : (va_up (va_up (va_up (va_up f l1 (.inr (7, fs5.set 3 (.ref l2)))) l1 (.inr (7, fs9.set 4 (.long l3)))) l1 (.inr (7, fs13.set 5 (.long l4)))) x20 (.inr (9, fs27.set 1 (.long x25)))) x34 = .inr (10, fs51)) (h53 : x34 < n) (h54 : mi_W d 76 0 (mi_en 6 [.ref x34, .ref x39, .long x44, .long x49]) [] (n, sl, (va_up (va_up (va_up (va_up f l1 (.inr (7, fs5.set 3 (.ref l2)))) l1 (.inr (7, fs9.set 4 (.long l3)))) l1 (.inr (7, fs13.set 5 (.long l4)))) x20 (.inr (9, fs27.set 1 (.long x25))))) (mi_Kc d 75 43 [some (.ref l1), some (.ref l2), some (.long l3), none, some (.long l4), none] [] Q)) : mi_W (d + 1) 75 0 [some (.ref l1), some (.ref l2), some (.long l3), none, some (.long l4), none] [] (n, sl, f) Q := by
  refine w_aload_n cd_75_0 rfl ?_
  refine w_aload_n cd_75_1 rfl ?_
  refine w_putfield (w := .ref l2) cd_75_2 (show mt_f 7 29 = some (7, 3) by decide +kernel) h6 h7 ⟨h8, rfl, Or.inl (by decide)⟩ ?_
  refine w_aload_n cd_75_5 rfl ?_
  refine w_lload_n cd_75_6 rfl ?_
  refine w_putfield (w := .long l3) cd_75_7 (show mt_f 7 82 = some (7, 4) by decide +kernel) h10 h11 ⟨h12, rfl, Or.inl (by decide)⟩ ?_
  refine w_aload_n cd_75_10 rfl ?_
  refine w_lload cd_75_11 rfl ?_
  refine w_putfield (w := .long l4) cd_75_13 (show mt_f 7 85 = some (7, 5) by decide +kernel) h14 h15 ⟨h16, rfl, Or.inl (by decide)⟩ ?_
  refine w_aload_n cd_75_16 rfl ?_
  refine w_getfield cd_75_17 (show mt_f 7 29 = some (7, 3) by decide +kernel) h18 h19 h21 ?_
  refine w_aload_n cd_75_20 rfl ?_
  refine w_getfield cd_75_21 (show mt_f 7 82 = some (7, 4) by decide +kernel) h23 h24 h26 ?_
  refine w_putfield (w := .long x25) cd_75_24 (show mt_f 7 45 = some (9, 1) by decide +kernel) h28 h29 ⟨h30, rfl, Or.inl (by decide)⟩ ?_
  refine w_aload_n cd_75_27 rfl ?_
  refine w_getfield cd_75_28 (show mt_f 7 38 = some (7, 2) by decide +kernel) h32 h33 h35 ?_
  refine w_aload_n cd_75_31 rfl ?_
  refine w_getfield cd_75_32 (show mt_f 7 29 = some (7, 3) by decide +kernel) h37 h38 h40 ?_
  refine w_aload_n cd_75_35 rfl ?_
  refine w_getfield cd_75_36 (show mt_f 7 82 = some (7, 4) by decide +kernel) h42 h43 h45 ?_
  refine w_aload_n cd_75_39 rfl ?_
  refine w_getfield cd_75_40 (show mt_f 7 85 = some (7, 5) by decide +kernel) h47 h48 h50 ?_
  exact w_invokevirtual cd_75_43 (show mt_m 7 88 = some (76, 0) by decide +kernel) (rest := []) rfl (as := [.ref x34, .ref x39, .long x44, .long x49]) rfl h52 (Or.inl h53) ⟨Nat.le_of_ble_eq_true rfl, Nat.le_of_ble_eq_true rfl, Nat.le_of_ble_eq_true rfl⟩ h54
theorem b_75_46 {d : Nat} {Q : (Option Value ⊕ Nat) → mi_H → Prop} (n sl : Nat) (f : Nat → mi_C) {l1 : Nat} {l2 : Nat} {l3 : Int64} {l4 : Int64} {fs5 : List Value} {w8 : Value} (h6 : f l1 = .inr (7, fs5)) (h7 : l1 < n) (h9 : fs5[1]? = some (w8)) (h10 : w8 = .null → mi_W d 75 60 [some (.ref l1), some (.ref l2), some (.long l3), none, some (.long l4), none] [] (n, sl, f) Q) (h11 : ∀ q : Nat, w8 = .ref q → mi_W d 75 53 [some (.ref l1), some (.ref l2), some (.long l3), none, some (.long l4), none] [] (n, sl, f) Q) (h12 : w8.isRef = true) : mi_W d 75 46 [some (.ref l1), some (.ref l2), some (.long l3), none, some (.long l4), none] [] (n, sl, f) Q := by
  refine w_aload_n cd_75_46 rfl ?_
  refine w_getfield cd_75_47 (show mt_f 7 22 = some (7, 1) by decide +kernel) h6 h7 h9 ?_
  
  cases w8 with
  | null => exact w_ifnull_n cd_75_50 (by decide) (h10 rfl)
  | ref q => exact w_ifnull_r cd_75_50 (h11 q rfl)
  | _ => cases h12
theorem b_75_53 {d : Nat} {Q : (Option Value ⊕ Nat) → mi_H → Prop} (n sl : Nat) (f : Nat → mi_C) {l1 : Nat} {l2 : Nat} {l3 : Int64} {l4 : Int64} {fs5 : List Value} {x8 : Nat} {fs10 : List Value} (h6 : f l1 = .inr (7, fs5)) (h7 : l1 < n) (h9 : fs5[1]? = some (.ref x8)) (h11 : f x8 = .inr (5, fs10)) (h12 : x8 < n) (h13 : mi_W d 77 0 (mi_en 1 [.ref x8]) [] (n, sl, f) (mi_Kc d 75 57 [some (.ref l1), some (.ref l2), some (.long l3), none, some (.long l4), none] [] Q)) : mi_W (d + 1) 75 53 [some (.ref l1), some (.ref l2), some (.long l3), none, some (.long l4), none] [] (n, sl, f) Q := by
  refine w_aload_n cd_75_53 rfl ?_
  refine w_getfield cd_75_54 (show mt_f 7 22 = some (7, 1) by decide +kernel) h6 h7 h9 ?_
  exact w_invokevirtual cd_75_57 (show mt_m 7 91 = some (77, 0) by decide +kernel) (rest := []) rfl (as := [.ref x8]) rfl h11 (Or.inl h12) ⟨Nat.le_of_ble_eq_true rfl, Nat.le_of_ble_eq_true rfl, Nat.le_of_ble_eq_true rfl⟩ h13
theorem b_75_60 {d : Nat} {Q : (Option Value ⊕ Nat) → mi_H → Prop} (n sl : Nat) (f : Nat → mi_C) {l1 : Nat} {l2 : Nat} {l3 : Int64} {l4 : Int64} (h5 : Q (.inl none) (n, sl, f)) : mi_W d 75 60 [some (.ref l1), some (.ref l2), some (.long l3), none, some (.long l4), none] [] (n, sl, f) Q := by
  exact w_return cd_75_60 (by decide +kernel) h5
/-! MarloweHost$Reckoner.look(LMarloweHost$Situation;JJ)V -/
set_option maxRecDepth 100000 in
theorem mq_76 : mt_q 76 = my_76 := rfl
set_option maxRecDepth 100000 in
theorem ci_76 : mt_inc 0 my_76.cd = true := by decide +kernel
theorem cd_76_0 : mt_cd 76 0 = some (.aload_n 0) := mt_cd_of (q := (0, .aload_n 0, 1)) mq_76 ci_76 (List.mem_of_getElem? (i := 0) rfl)
theorem cd_76_1 : mt_cd 76 1 = some (.aload_n 1) := mt_cd_of (q := (1, .aload_n 1, 1)) mq_76 ci_76 (List.mem_of_getElem? (i := 1) rfl)
theorem cd_76_2 : mt_cd 76 2 = some (.putfield 15) := mt_cd_of (q := (2, .putfield 15, 3)) mq_76 ci_76 (List.mem_of_getElem? (i := 2) rfl)
theorem cd_76_5 : mt_cd 76 5 = some (.aload_n 0) := mt_cd_of (q := (5, .aload_n 0, 1)) mq_76 ci_76 (List.mem_of_getElem? (i := 3) rfl)
theorem cd_76_6 : mt_cd 76 6 = some (.lload_n 2) := mt_cd_of (q := (6, .lload_n 2, 1)) mq_76 ci_76 (List.mem_of_getElem? (i := 4) rfl)
theorem cd_76_7 : mt_cd 76 7 = some (.putfield 19) := mt_cd_of (q := (7, .putfield 19, 3)) mq_76 ci_76 (List.mem_of_getElem? (i := 5) rfl)
theorem cd_76_10 : mt_cd 76 10 = some (.aload_n 0) := mt_cd_of (q := (10, .aload_n 0, 1)) mq_76 ci_76 (List.mem_of_getElem? (i := 6) rfl)
theorem cd_76_11 : mt_cd 76 11 = some (.lload 4) := mt_cd_of (q := (11, .lload 4, 2)) mq_76 ci_76 (List.mem_of_getElem? (i := 7) rfl)
theorem cd_76_13 : mt_cd 76 13 = some (.putfield 23) := mt_cd_of (q := (13, .putfield 23, 3)) mq_76 ci_76 (List.mem_of_getElem? (i := 8) rfl)
theorem cd_76_16 : mt_cd 76 16 = some (.aload_n 0) := mt_cd_of (q := (16, .aload_n 0, 1)) mq_76 ci_76 (List.mem_of_getElem? (i := 9) rfl)
theorem cd_76_17 : mt_cd 76 17 = some (.iconst 0) := mt_cd_of (q := (17, .iconst 0, 1)) mq_76 ci_76 (List.mem_of_getElem? (i := 10) rfl)
theorem cd_76_18 : mt_cd 76 18 = some (.putfield 26) := mt_cd_of (q := (18, .putfield 26, 3)) mq_76 ci_76 (List.mem_of_getElem? (i := 11) rfl)
theorem cd_76_21 : mt_cd 76 21 = some (.return_) := mt_cd_of (q := (21, .return_, 1)) mq_76 ci_76 (List.mem_of_getElem? (i := 12) rfl)
theorem b_76_0 {d : Nat} {Q : (Option Value ⊕ Nat) → mi_H → Prop} (n sl : Nat) (f : Nat → mi_C) {l1 : Nat} {l2 : Nat} {l3 : Int64} {l4 : Int64} {fs5 : List Value} {fs9 : List Value} {fs13 : List Value} {fs17 : List Value} (h6 : f l1 = .inr (10, fs5)) (h7 : l1 < n) (h8 : 1 < fs5.length) (h10 : (va_up f l1 (.inr (10, fs5.set 1 (.ref l2)))) l1 = .inr (10, fs9)) (h11 : l1 < n) (h12 : 2 < fs9.length) (h14 : (va_up (va_up f l1 (.inr (10, fs5.set 1 (.ref l2)))) l1 (.inr (10, fs9.set 2 (.long l3)))) l1 = .inr (10, fs13)) (h15 : l1 < n) (h16 : 3 < fs13.length) (h18 : (va_up (va_up (va_up f l1 (.inr (10, fs5.set 1 (.ref l2)))) l1 (.inr (10, fs9.set 2 (.long l3)))) l1 (.inr (10, fs13.set 3 (.long l4)))) l1 = .inr (10, fs17)) (h19 : l1 < n) (h20 : 4 < fs17.length) (h21 : mi_fk .boolean (.int 0) = true) (h22 : Q (.inl none) (n, sl, (va_up (va_up (va_up (va_up f l1 (.inr (10, fs5.set 1 (.ref l2)))) l1 (.inr (10, fs9.set 2 (.long l3)))) l1 (.inr (10, fs13.set 3 (.long l4)))) l1 (.inr (10, fs17.set 4 (.int 0)))))) : mi_W d 76 0 [some (.ref l1), some (.ref l2), some (.long l3), none, some (.long l4), none] [] (n, sl, f) Q := by
  refine w_aload_n cd_76_0 rfl ?_
  refine w_aload_n cd_76_1 rfl ?_
  refine w_putfield (w := .ref l2) cd_76_2 (show mt_f 10 15 = some (10, 1) by decide +kernel) h6 h7 ⟨h8, rfl, Or.inl (by decide)⟩ ?_
  refine w_aload_n cd_76_5 rfl ?_
  refine w_lload_n cd_76_6 rfl ?_
  refine w_putfield (w := .long l3) cd_76_7 (show mt_f 10 19 = some (10, 2) by decide +kernel) h10 h11 ⟨h12, rfl, Or.inl (by decide)⟩ ?_
  refine w_aload_n cd_76_10 rfl ?_
  refine w_lload cd_76_11 rfl ?_
  refine w_putfield (w := .long l4) cd_76_13 (show mt_f 10 23 = some (10, 3) by decide +kernel) h14 h15 ⟨h16, rfl, Or.inl (by decide)⟩ ?_
  refine w_aload_n cd_76_16 rfl ?_
  refine w_iconst (v := 0) cd_76_17 (by decide) ?_
  refine w_putfield (w := .int 0) cd_76_18 (show mt_f 10 26 = some (10, 4) by decide +kernel) h18 h19 ⟨h20, h21, Or.inl (by decide)⟩ ?_
  exact w_return cd_76_21 (by decide +kernel) h22
/-! MarloweHost$Wallets.begin()V -/
set_option maxRecDepth 100000 in
theorem mq_77 : mt_q 77 = my_77 := rfl
set_option maxRecDepth 100000 in
theorem ci_77 : mt_inc 0 my_77.cd = true := by decide +kernel
theorem cd_77_0 : mt_cd 77 0 = some (.aload_n 0) := mt_cd_of (q := (0, .aload_n 0, 1)) mq_77 ci_77 (List.mem_of_getElem? (i := 0) rfl)
theorem cd_77_1 : mt_cd 77 1 = some (.getfield 9) := mt_cd_of (q := (1, .getfield 9, 3)) mq_77 ci_77 (List.mem_of_getElem? (i := 1) rfl)
theorem cd_77_4 : mt_cd 77 4 = some (.iconst 0) := mt_cd_of (q := (4, .iconst 0, 1)) mq_77 ci_77 (List.mem_of_getElem? (i := 2) rfl)
theorem cd_77_5 : mt_cd 77 5 = some (.aload_n 0) := mt_cd_of (q := (5, .aload_n 0, 1)) mq_77 ci_77 (List.mem_of_getElem? (i := 3) rfl)
theorem cd_77_6 : mt_cd 77 6 = some (.getfield 15) := mt_cd_of (q := (6, .getfield 15, 3)) mq_77 ci_77 (List.mem_of_getElem? (i := 4) rfl)
theorem cd_77_9 : mt_cd 77 9 = some (.iconst 0) := mt_cd_of (q := (9, .iconst 0, 1)) mq_77 ci_77 (List.mem_of_getElem? (i := 5) rfl)
theorem cd_77_10 : mt_cd 77 10 = some (.bipush 32) := mt_cd_of (q := (10, .bipush 32, 2)) mq_77 ci_77 (List.mem_of_getElem? (i := 6) rfl)
theorem cd_77_12 : mt_cd 77 12 = some (.invokestatic 18) := mt_cd_of (q := (12, .invokestatic 18, 3)) mq_77 ci_77 (List.mem_of_getElem? (i := 7) rfl)
theorem cd_77_15 : mt_cd 77 15 = some (.return_) := mt_cd_of (q := (15, .return_, 1)) mq_77 ci_77 (List.mem_of_getElem? (i := 8) rfl)
theorem b_77_0 {d : Nat} {Q : (Option Value ⊕ Nat) → mi_H → Prop} (n sl : Nat) (f : Nat → mi_C) {l1 : Nat} {fs2 : List Value} {x5 : Nat} {fs7 : List Value} {x10 : Nat} (m12 k12 : Nat) (g12 e12 : Nat → Int64) (h3 : f l1 = .inr (5, fs2)) (h4 : l1 < n) (h6 : fs2[0]? = some (.ref x5)) (h8 : f l1 = .inr (5, fs7)) (h9 : l1 < n) (h11 : fs7[1]? = some (.ref x10)) (h13 : f x5 = .inl (3, m12, .inr (.inl g12))) (h14 : x5 < n) (h15 : f x10 = .inl (3, k12, .inr (.inl e12))) (h16 : x10 < n) (h17 : ¬ (0 : Int32) < 0 ∧ ¬ (0 : Int32) < 0 ∧ ¬ (32 : Int32) < 0 ∧ (0 : Int32).toNatClampNeg + (32 : Int32).toNatClampNeg ≤ m12 ∧ (0 : Int32).toNatClampNeg + (32 : Int32).toNatClampNeg ≤ k12) (h18 : Q (.inl none) (n, sl, (va_up f x10 (.inl (3, k12, .inr (.inl (va_cpy g12 e12 (0 : Int32).toNatClampNeg (0 : Int32).toNatClampNeg (32 : Int32).toNatClampNeg))))))) : mi_W d 77 0 [some (.ref l1)] [] (n, sl, f) Q := by
  refine w_aload_n cd_77_0 rfl ?_
  refine w_getfield cd_77_1 (show mt_f 5 9 = some (5, 0) by decide +kernel) h3 h4 h6 ?_
  refine w_iconst (v := 0) cd_77_4 (by decide) ?_
  refine w_aload_n cd_77_5 rfl ?_
  refine w_getfield cd_77_6 (show mt_f 5 15 = some (5, 1) by decide +kernel) h8 h9 h11 ?_
  refine w_iconst (v := 0) cd_77_9 (by decide) ?_
  refine w_bipush (v := 32) cd_77_10 (by decide) ?_
  refine w_arraycopy cd_77_12 (by decide) h13 h14 h15 h16 (Nat.le_of_ble_eq_true rfl) h17 ?_
  exact w_return cd_77_15 (by decide +kernel) h18
/-! MarloweHost$Machine.reduce()Z -/
set_option maxRecDepth 100000 in
theorem mq_78 : mt_q 78 = my_78 := rfl
set_option maxRecDepth 100000 in
theorem ci_78 : mt_inc 0 my_78.cd = true := by decide +kernel
theorem cd_78_0 : mt_cd 78 0 = some (.iconst 0) := mt_cd_of (q := (0, .iconst 0, 1)) mq_78 ci_78 (List.mem_append_left _ (show _ ∈ my_78_0 from List.mem_of_getElem? (i := 0) rfl))
theorem cd_78_1 : mt_cd 78 1 = some (.istore_n 1) := mt_cd_of (q := (1, .istore_n 1, 1)) mq_78 ci_78 (List.mem_append_left _ (show _ ∈ my_78_0 from List.mem_of_getElem? (i := 1) rfl))
theorem cd_78_2 : mt_cd 78 2 = some (.iconst 0) := mt_cd_of (q := (2, .iconst 0, 1)) mq_78 ci_78 (List.mem_append_left _ (show _ ∈ my_78_0 from List.mem_of_getElem? (i := 2) rfl))
theorem cd_78_3 : mt_cd 78 3 = some (.istore_n 2) := mt_cd_of (q := (3, .istore_n 2, 1)) mq_78 ci_78 (List.mem_append_left _ (show _ ∈ my_78_0 from List.mem_of_getElem? (i := 3) rfl))
theorem cd_78_4 : mt_cd 78 4 = some (.iload_n 2) := mt_cd_of (q := (4, .iload_n 2, 1)) mq_78 ci_78 (List.mem_append_left _ (show _ ∈ my_78_0 from List.mem_of_getElem? (i := 4) rfl))
theorem cd_78_5 : mt_cd 78 5 = some (.sipush 148) := mt_cd_of (q := (5, .sipush 148, 3)) mq_78 ci_78 (List.mem_append_left _ (show _ ∈ my_78_0 from List.mem_of_getElem? (i := 5) rfl))
theorem cd_78_8 : mt_cd 78 8 = some (.if_icmp .ge 244) := mt_cd_of (q := (8, .if_icmp .ge 244, 3)) mq_78 ci_78 (List.mem_append_left _ (show _ ∈ my_78_0 from List.mem_of_getElem? (i := 6) rfl))
theorem cd_78_11 : mt_cd 78 11 = some (.aload_n 0) := mt_cd_of (q := (11, .aload_n 0, 1)) mq_78 ci_78 (List.mem_append_left _ (show _ ∈ my_78_0 from List.mem_of_getElem? (i := 7) rfl))
theorem cd_78_12 : mt_cd 78 12 = some (.getfield 49) := mt_cd_of (q := (12, .getfield 49, 3)) mq_78 ci_78 (List.mem_append_left _ (show _ ∈ my_78_0 from List.mem_of_getElem? (i := 8) rfl))
theorem cd_78_15 : mt_cd 78 15 = some (.ifCond .ne 237) := mt_cd_of (q := (15, .ifCond .ne 237, 3)) mq_78 ci_78 (List.mem_append_left _ (show _ ∈ my_78_0 from List.mem_of_getElem? (i := 9) rfl))
theorem cd_78_18 : mt_cd 78 18 = some (.aload_n 0) := mt_cd_of (q := (18, .aload_n 0, 1)) mq_78 ci_78 (List.mem_append_left _ (show _ ∈ my_78_0 from List.mem_of_getElem? (i := 10) rfl))
theorem cd_78_19 : mt_cd 78 19 = some (.getfield 29) := mt_cd_of (q := (19, .getfield 29, 3)) mq_78 ci_78 (List.mem_append_left _ (show _ ∈ my_78_0 from List.mem_of_getElem? (i := 11) rfl))
theorem cd_78_22 : mt_cd 78 22 = some (.getfield 94) := mt_cd_of (q := (22, .getfield 94, 3)) mq_78 ci_78 (List.mem_append_left _ (show _ ∈ my_78_0 from List.mem_of_getElem? (i := 12) rfl))
theorem cd_78_25 : mt_cd 78 25 = some (.istore_n 3) := mt_cd_of (q := (25, .istore_n 3, 1)) mq_78 ci_78 (List.mem_append_left _ (show _ ∈ my_78_0 from List.mem_of_getElem? (i := 13) rfl))
theorem cd_78_26 : mt_cd 78 26 = some (.iconst 1) := mt_cd_of (q := (26, .iconst 1, 1)) mq_78 ci_78 (List.mem_append_left _ (show _ ∈ my_78_0 from List.mem_of_getElem? (i := 14) rfl))
theorem cd_78_27 : mt_cd 78 27 = some (.istore 4) := mt_cd_of (q := (27, .istore 4, 2)) mq_78 ci_78 (List.mem_append_left _ (show _ ∈ my_78_0 from List.mem_of_getElem? (i := 15) rfl))
theorem cd_78_29 : mt_cd 78 29 = some (.aload_n 0) := mt_cd_of (q := (29, .aload_n 0, 1)) mq_78 ci_78 (List.mem_append_left _ (show _ ∈ my_78_0 from List.mem_of_getElem? (i := 16) rfl))
theorem cd_78_30 : mt_cd 78 30 = some (.getfield 18) := mt_cd_of (q := (30, .getfield 18, 3)) mq_78 ci_78 (List.mem_append_left _ (show _ ∈ my_78_0 from List.mem_of_getElem? (i := 17) rfl))
theorem cd_78_33 : mt_cd 78 33 = some (.iload_n 3) := mt_cd_of (q := (33, .iload_n 3, 1)) mq_78 ci_78 (List.mem_append_left _ (show _ ∈ my_78_0 from List.mem_of_getElem? (i := 18) rfl))
theorem cd_78_34 : mt_cd 78 34 = some (.invokevirtual 97) := mt_cd_of (q := (34, .invokevirtual 97, 3)) mq_78 ci_78 (List.mem_append_left _ (show _ ∈ my_78_0 from List.mem_of_getElem? (i := 19) rfl))
theorem cd_78_37 : mt_cd 78 37 = some (.tableswitch 181 0 7 #[47, 56, 181, 181, 64, 115, 125, 133]) := mt_cd_of (q := (37, .tableswitch 181 0 7 #[47, 56, 181, 181, 64, 115, 125, 133], 47)) mq_78 ci_78 (List.mem_append_left _ (show _ ∈ my_78_0 from List.mem_of_getElem? (i := 20) rfl))
theorem cd_78_84 : mt_cd 78 84 = some (.aload_n 0) := mt_cd_of (q := (84, .aload_n 0, 1)) mq_78 ci_78 (List.mem_append_left _ (show _ ∈ my_78_0 from List.mem_of_getElem? (i := 21) rfl))
theorem cd_78_85 : mt_cd 78 85 = some (.invokevirtual 111) := mt_cd_of (q := (85, .invokevirtual 111, 3)) mq_78 ci_78 (List.mem_append_left _ (show _ ∈ my_78_0 from List.mem_of_getElem? (i := 22) rfl))
theorem cd_78_88 : mt_cd 78 88 = some (.istore 4) := mt_cd_of (q := (88, .istore 4, 2)) mq_78 ci_78 (List.mem_append_left _ (show _ ∈ my_78_0 from List.mem_of_getElem? (i := 23) rfl))
theorem cd_78_90 : mt_cd 78 90 = some (.goto 131) := mt_cd_of (q := (90, .goto 131, 3)) mq_78 ci_78 (List.mem_append_left _ (show _ ∈ my_78_0 from List.mem_of_getElem? (i := 24) rfl))
theorem cd_78_93 : mt_cd 78 93 = some (.aload_n 0) := mt_cd_of (q := (93, .aload_n 0, 1)) mq_78 ci_78 (List.mem_append_left _ (show _ ∈ my_78_0 from List.mem_of_getElem? (i := 25) rfl))
theorem cd_78_94 : mt_cd 78 94 = some (.iload_n 3) := mt_cd_of (q := (94, .iload_n 3, 1)) mq_78 ci_78 (List.mem_append_left _ (show _ ∈ my_78_0 from List.mem_of_getElem? (i := 26) rfl))
theorem cd_78_95 : mt_cd 78 95 = some (.invokevirtual 114) := mt_cd_of (q := (95, .invokevirtual 114, 3)) mq_78 ci_78 (List.mem_append_left _ (show _ ∈ my_78_0 from List.mem_of_getElem? (i := 27) rfl))
theorem cd_78_98 : mt_cd 78 98 = some (.goto 123) := mt_cd_of (q := (98, .goto 123, 3)) mq_78 ci_78 (List.mem_append_left _ (show _ ∈ my_78_0 from List.mem_of_getElem? (i := 28) rfl))
theorem cd_78_101 : mt_cd 78 101 = some (.aload_n 0) := mt_cd_of (q := (101, .aload_n 0, 1)) mq_78 ci_78 (List.mem_append_left _ (show _ ∈ my_78_0 from List.mem_of_getElem? (i := 29) rfl))
theorem cd_78_102 : mt_cd 78 102 = some (.getfield 29) := mt_cd_of (q := (102, .getfield 29, 3)) mq_78 ci_78 (List.mem_append_left _ (show _ ∈ my_78_0 from List.mem_of_getElem? (i := 30) rfl))
theorem cd_78_105 : mt_cd 78 105 = some (.aload_n 0) := mt_cd_of (q := (105, .aload_n 0, 1)) mq_78 ci_78 (List.mem_append_left _ (show _ ∈ my_78_0 from List.mem_of_getElem? (i := 31) rfl))
theorem cd_78_106 : mt_cd 78 106 = some (.getfield 38) := mt_cd_of (q := (106, .getfield 38, 3)) mq_78 ci_78 (List.mem_append_left _ (show _ ∈ my_78_0 from List.mem_of_getElem? (i := 32) rfl))
theorem cd_78_109 : mt_cd 78 109 = some (.aload_n 0) := mt_cd_of (q := (109, .aload_n 0, 1)) mq_78 ci_78 (List.mem_append_left _ (show _ ∈ my_78_0 from List.mem_of_getElem? (i := 33) rfl))
theorem cd_78_110 : mt_cd 78 110 = some (.getfield 18) := mt_cd_of (q := (110, .getfield 18, 3)) mq_78 ci_78 (List.mem_append_left _ (show _ ∈ my_78_0 from List.mem_of_getElem? (i := 34) rfl))
theorem cd_78_113 : mt_cd 78 113 = some (.getfield 118) := mt_cd_of (q := (113, .getfield 118, 3)) mq_78 ci_78 (List.mem_append_left _ (show _ ∈ my_78_0 from List.mem_of_getElem? (i := 35) rfl))
theorem cd_78_116 : mt_cd 78 116 = some (.iload_n 3) := mt_cd_of (q := (116, .iload_n 3, 1)) mq_78 ci_78 (List.mem_append_left _ (show _ ∈ my_78_0 from List.mem_of_getElem? (i := 36) rfl))
theorem cd_78_117 : mt_cd 78 117 = some (.iaload) := mt_cd_of (q := (117, .iaload, 1)) mq_78 ci_78 (List.mem_append_left _ (show _ ∈ my_78_0 from List.mem_of_getElem? (i := 37) rfl))
theorem cd_78_118 : mt_cd 78 118 = some (.iconst 1) := mt_cd_of (q := (118, .iconst 1, 1)) mq_78 ci_78 (List.mem_append_left _ (show _ ∈ my_78_0 from List.mem_of_getElem? (i := 38) rfl))
theorem cd_78_119 : mt_cd 78 119 = some (.invokevirtual 122) := mt_cd_of (q := (119, .invokevirtual 122, 3)) mq_78 ci_78 (List.mem_append_left _ (show _ ∈ my_78_0 from List.mem_of_getElem? (i := 39) rfl))
theorem cd_78_122 : mt_cd 78 122 = some (.ifCond .eq 15) := mt_cd_of (q := (122, .ifCond .eq 15, 3)) mq_78 ci_78 (List.mem_append_left _ (show _ ∈ my_78_0 from List.mem_of_getElem? (i := 40) rfl))
theorem cd_78_125 : mt_cd 78 125 = some (.aload_n 0) := mt_cd_of (q := (125, .aload_n 0, 1)) mq_78 ci_78 (List.mem_append_left _ (show _ ∈ my_78_0 from List.mem_of_getElem? (i := 41) rfl))
theorem cd_78_126 : mt_cd 78 126 = some (.getfield 18) := mt_cd_of (q := (126, .getfield 18, 3)) mq_78 ci_78 (List.mem_append_left _ (show _ ∈ my_78_0 from List.mem_of_getElem? (i := 42) rfl))
theorem cd_78_129 : mt_cd 78 129 = some (.getfield 126) := mt_cd_of (q := (129, .getfield 126, 3)) mq_78 ci_78 (List.mem_append_left _ (show _ ∈ my_78_0 from List.mem_of_getElem? (i := 43) rfl))
theorem cd_78_132 : mt_cd 78 132 = some (.iload_n 3) := mt_cd_of (q := (132, .iload_n 3, 1)) mq_78 ci_78 (List.mem_append_left _ (show _ ∈ my_78_0 from List.mem_of_getElem? (i := 44) rfl))
theorem cd_78_133 : mt_cd 78 133 = some (.iaload) := mt_cd_of (q := (133, .iaload, 1)) mq_78 ci_78 (List.mem_append_left _ (show _ ∈ my_78_0 from List.mem_of_getElem? (i := 45) rfl))
theorem cd_78_134 : mt_cd 78 134 = some (.goto 12) := mt_cd_of (q := (134, .goto 12, 3)) mq_78 ci_78 (List.mem_append_left _ (show _ ∈ my_78_0 from List.mem_of_getElem? (i := 46) rfl))
theorem cd_78_137 : mt_cd 78 137 = some (.aload_n 0) := mt_cd_of (q := (137, .aload_n 0, 1)) mq_78 ci_78 (List.mem_append_left _ (show _ ∈ my_78_0 from List.mem_of_getElem? (i := 47) rfl))
theorem cd_78_138 : mt_cd 78 138 = some (.getfield 18) := mt_cd_of (q := (138, .getfield 18, 3)) mq_78 ci_78 (List.mem_append_left _ (show _ ∈ my_78_0 from List.mem_of_getElem? (i := 48) rfl))
theorem cd_78_141 : mt_cd 78 141 = some (.getfield 129) := mt_cd_of (q := (141, .getfield 129, 3)) mq_78 ci_78 (List.mem_append_left _ (show _ ∈ my_78_0 from List.mem_of_getElem? (i := 49) rfl))
theorem cd_78_144 : mt_cd 78 144 = some (.iload_n 3) := mt_cd_of (q := (144, .iload_n 3, 1)) mq_78 ci_78 (List.mem_append_left _ (show _ ∈ my_78_0 from List.mem_of_getElem? (i := 50) rfl))
theorem cd_78_145 : mt_cd 78 145 = some (.iaload) := mt_cd_of (q := (145, .iaload, 1)) mq_78 ci_78 (List.mem_append_left _ (show _ ∈ my_78_0 from List.mem_of_getElem? (i := 51) rfl))
theorem cd_78_146 : mt_cd 78 146 = some (.putfield 94) := mt_cd_of (q := (146, .putfield 94, 3)) mq_78 ci_78 (List.mem_append_left _ (show _ ∈ my_78_0 from List.mem_of_getElem? (i := 52) rfl))
theorem cd_78_149 : mt_cd 78 149 = some (.goto 72) := mt_cd_of (q := (149, .goto 72, 3)) mq_78 ci_78 (List.mem_append_left _ (show _ ∈ my_78_0 from List.mem_of_getElem? (i := 53) rfl))
theorem cd_78_152 : mt_cd 78 152 = some (.aload_n 0) := mt_cd_of (q := (152, .aload_n 0, 1)) mq_78 ci_78 (List.mem_append_left _ (show _ ∈ my_78_0 from List.mem_of_getElem? (i := 54) rfl))
theorem cd_78_153 : mt_cd 78 153 = some (.iload_n 3) := mt_cd_of (q := (153, .iload_n 3, 1)) mq_78 ci_78 (List.mem_append_left _ (show _ ∈ my_78_0 from List.mem_of_getElem? (i := 55) rfl))
theorem cd_78_154 : mt_cd 78 154 = some (.invokevirtual 132) := mt_cd_of (q := (154, .invokevirtual 132, 3)) mq_78 ci_78 (List.mem_append_left _ (show _ ∈ my_78_0 from List.mem_of_getElem? (i := 56) rfl))
theorem cd_78_157 : mt_cd 78 157 = some (.istore 4) := mt_cd_of (q := (157, .istore 4, 2)) mq_78 ci_78 (List.mem_append_left _ (show _ ∈ my_78_0 from List.mem_of_getElem? (i := 57) rfl))
theorem cd_78_159 : mt_cd 78 159 = some (.goto 62) := mt_cd_of (q := (159, .goto 62, 3)) mq_78 ci_78 (List.mem_append_left _ (show _ ∈ my_78_0 from List.mem_of_getElem? (i := 58) rfl))
theorem cd_78_162 : mt_cd 78 162 = some (.aload_n 0) := mt_cd_of (q := (162, .aload_n 0, 1)) mq_78 ci_78 (List.mem_append_left _ (show _ ∈ my_78_0 from List.mem_of_getElem? (i := 59) rfl))
theorem cd_78_163 : mt_cd 78 163 = some (.iload_n 3) := mt_cd_of (q := (163, .iload_n 3, 1)) mq_78 ci_78 (List.mem_append_right _ ((show _ ∈ my_78_1 from List.mem_of_getElem? (i := 0) rfl)))
theorem cd_78_164 : mt_cd 78 164 = some (.invokevirtual 136) := mt_cd_of (q := (164, .invokevirtual 136, 3)) mq_78 ci_78 (List.mem_append_right _ ((show _ ∈ my_78_1 from List.mem_of_getElem? (i := 1) rfl)))
theorem cd_78_167 : mt_cd 78 167 = some (.goto 54) := mt_cd_of (q := (167, .goto 54, 3)) mq_78 ci_78 (List.mem_append_right _ ((show _ ∈ my_78_1 from List.mem_of_getElem? (i := 2) rfl)))
theorem cd_78_170 : mt_cd 78 170 = some (.aload_n 0) := mt_cd_of (q := (170, .aload_n 0, 1)) mq_78 ci_78 (List.mem_append_right _ ((show _ ∈ my_78_1 from List.mem_of_getElem? (i := 3) rfl)))
theorem cd_78_171 : mt_cd 78 171 = some (.getfield 38) := mt_cd_of (q := (171, .getfield 38, 3)) mq_78 ci_78 (List.mem_append_right _ ((show _ ∈ my_78_1 from List.mem_of_getElem? (i := 4) rfl)))
theorem cd_78_174 : mt_cd 78 174 = some (.aload_n 0) := mt_cd_of (q := (174, .aload_n 0, 1)) mq_78 ci_78 (List.mem_append_right _ ((show _ ∈ my_78_1 from List.mem_of_getElem? (i := 5) rfl)))
theorem cd_78_175 : mt_cd 78 175 = some (.getfield 18) := mt_cd_of (q := (175, .getfield 18, 3)) mq_78 ci_78 (List.mem_append_right _ ((show _ ∈ my_78_1 from List.mem_of_getElem? (i := 6) rfl)))
theorem cd_78_178 : mt_cd 78 178 = some (.getfield 118) := mt_cd_of (q := (178, .getfield 118, 3)) mq_78 ci_78 (List.mem_append_right _ ((show _ ∈ my_78_1 from List.mem_of_getElem? (i := 7) rfl)))
theorem cd_78_181 : mt_cd 78 181 = some (.iload_n 3) := mt_cd_of (q := (181, .iload_n 3, 1)) mq_78 ci_78 (List.mem_append_right _ ((show _ ∈ my_78_1 from List.mem_of_getElem? (i := 8) rfl)))
theorem cd_78_182 : mt_cd 78 182 = some (.iaload) := mt_cd_of (q := (182, .iaload, 1)) mq_78 ci_78 (List.mem_append_right _ ((show _ ∈ my_78_1 from List.mem_of_getElem? (i := 9) rfl)))
theorem cd_78_183 : mt_cd 78 183 = some (.iconst 1) := mt_cd_of (q := (183, .iconst 1, 1)) mq_78 ci_78 (List.mem_append_right _ ((show _ ∈ my_78_1 from List.mem_of_getElem? (i := 10) rfl)))
theorem cd_78_184 : mt_cd 78 184 = some (.invokevirtual 122) := mt_cd_of (q := (184, .invokevirtual 122, 3)) mq_78 ci_78 (List.mem_append_right _ ((show _ ∈ my_78_1 from List.mem_of_getElem? (i := 11) rfl)))
theorem cd_78_187 : mt_cd 78 187 = some (.ifCond .ne 12) := mt_cd_of (q := (187, .ifCond .ne 12, 3)) mq_78 ci_78 (List.mem_append_right _ ((show _ ∈ my_78_1 from List.mem_of_getElem? (i := 12) rfl)))
theorem cd_78_190 : mt_cd 78 190 = some (.aload_n 0) := mt_cd_of (q := (190, .aload_n 0, 1)) mq_78 ci_78 (List.mem_append_right _ ((show _ ∈ my_78_1 from List.mem_of_getElem? (i := 13) rfl)))
theorem cd_78_191 : mt_cd 78 191 = some (.getfield 12) := mt_cd_of (q := (191, .getfield 12, 3)) mq_78 ci_78 (List.mem_append_right _ ((show _ ∈ my_78_1 from List.mem_of_getElem? (i := 14) rfl)))
theorem cd_78_194 : mt_cd 78 194 = some (.iconst 5) := mt_cd_of (q := (194, .iconst 5, 1)) mq_78 ci_78 (List.mem_append_right _ ((show _ ∈ my_78_1 from List.mem_of_getElem? (i := 15) rfl)))
theorem cd_78_195 : mt_cd 78 195 = some (.iload_n 3) := mt_cd_of (q := (195, .iload_n 3, 1)) mq_78 ci_78 (List.mem_append_right _ ((show _ ∈ my_78_1 from List.mem_of_getElem? (i := 16) rfl)))
theorem cd_78_196 : mt_cd 78 196 = some (.invokevirtual 139) := mt_cd_of (q := (196, .invokevirtual 139, 3)) mq_78 ci_78 (List.mem_append_right _ ((show _ ∈ my_78_1 from List.mem_of_getElem? (i := 17) rfl)))
theorem cd_78_199 : mt_cd 78 199 = some (.aload_n 0) := mt_cd_of (q := (199, .aload_n 0, 1)) mq_78 ci_78 (List.mem_append_right _ ((show _ ∈ my_78_1 from List.mem_of_getElem? (i := 18) rfl)))
theorem cd_78_200 : mt_cd 78 200 = some (.getfield 29) := mt_cd_of (q := (200, .getfield 29, 3)) mq_78 ci_78 (List.mem_append_right _ ((show _ ∈ my_78_1 from List.mem_of_getElem? (i := 19) rfl)))
theorem cd_78_203 : mt_cd 78 203 = some (.aload_n 0) := mt_cd_of (q := (203, .aload_n 0, 1)) mq_78 ci_78 (List.mem_append_right _ ((show _ ∈ my_78_1 from List.mem_of_getElem? (i := 20) rfl)))
theorem cd_78_204 : mt_cd 78 204 = some (.getfield 18) := mt_cd_of (q := (204, .getfield 18, 3)) mq_78 ci_78 (List.mem_append_right _ ((show _ ∈ my_78_1 from List.mem_of_getElem? (i := 21) rfl)))
theorem cd_78_207 : mt_cd 78 207 = some (.getfield 129) := mt_cd_of (q := (207, .getfield 129, 3)) mq_78 ci_78 (List.mem_append_right _ ((show _ ∈ my_78_1 from List.mem_of_getElem? (i := 22) rfl)))
theorem cd_78_210 : mt_cd 78 210 = some (.iload_n 3) := mt_cd_of (q := (210, .iload_n 3, 1)) mq_78 ci_78 (List.mem_append_right _ ((show _ ∈ my_78_1 from List.mem_of_getElem? (i := 23) rfl)))
theorem cd_78_211 : mt_cd 78 211 = some (.iaload) := mt_cd_of (q := (211, .iaload, 1)) mq_78 ci_78 (List.mem_append_right _ ((show _ ∈ my_78_1 from List.mem_of_getElem? (i := 24) rfl)))
theorem cd_78_212 : mt_cd 78 212 = some (.putfield 94) := mt_cd_of (q := (212, .putfield 94, 3)) mq_78 ci_78 (List.mem_append_right _ ((show _ ∈ my_78_1 from List.mem_of_getElem? (i := 25) rfl)))
theorem cd_78_215 : mt_cd 78 215 = some (.goto 6) := mt_cd_of (q := (215, .goto 6, 3)) mq_78 ci_78 (List.mem_append_right _ ((show _ ∈ my_78_1 from List.mem_of_getElem? (i := 26) rfl)))
theorem cd_78_218 : mt_cd 78 218 = some (.iconst 0) := mt_cd_of (q := (218, .iconst 0, 1)) mq_78 ci_78 (List.mem_append_right _ ((show _ ∈ my_78_1 from List.mem_of_getElem? (i := 27) rfl)))
theorem cd_78_219 : mt_cd 78 219 = some (.istore 4) := mt_cd_of (q := (219, .istore 4, 2)) mq_78 ci_78 (List.mem_append_right _ ((show _ ∈ my_78_1 from List.mem_of_getElem? (i := 28) rfl)))
theorem cd_78_221 : mt_cd 78 221 = some (.aload_n 0) := mt_cd_of (q := (221, .aload_n 0, 1)) mq_78 ci_78 (List.mem_append_right _ ((show _ ∈ my_78_1 from List.mem_of_getElem? (i := 29) rfl)))
theorem cd_78_222 : mt_cd 78 222 = some (.getfield 38) := mt_cd_of (q := (222, .getfield 38, 3)) mq_78 ci_78 (List.mem_append_right _ ((show _ ∈ my_78_1 from List.mem_of_getElem? (i := 30) rfl)))
theorem cd_78_225 : mt_cd 78 225 = some (.getfield 143) := mt_cd_of (q := (225, .getfield 143, 3)) mq_78 ci_78 (List.mem_append_right _ ((show _ ∈ my_78_1 from List.mem_of_getElem? (i := 31) rfl)))
theorem cd_78_228 : mt_cd 78 228 = some (.ifCond .eq 9) := mt_cd_of (q := (228, .ifCond .eq 9, 3)) mq_78 ci_78 (List.mem_append_right _ ((show _ ∈ my_78_1 from List.mem_of_getElem? (i := 32) rfl)))
theorem cd_78_231 : mt_cd 78 231 = some (.aload_n 0) := mt_cd_of (q := (231, .aload_n 0, 1)) mq_78 ci_78 (List.mem_append_right _ ((show _ ∈ my_78_1 from List.mem_of_getElem? (i := 33) rfl)))
theorem cd_78_232 : mt_cd 78 232 = some (.bipush 6) := mt_cd_of (q := (232, .bipush 6, 2)) mq_78 ci_78 (List.mem_append_right _ ((show _ ∈ my_78_1 from List.mem_of_getElem? (i := 34) rfl)))
theorem cd_78_234 : mt_cd 78 234 = some (.putfield 49) := mt_cd_of (q := (234, .putfield 49, 3)) mq_78 ci_78 (List.mem_append_right _ ((show _ ∈ my_78_1 from List.mem_of_getElem? (i := 35) rfl)))
theorem cd_78_237 : mt_cd 78 237 = some (.iload 4) := mt_cd_of (q := (237, .iload 4, 2)) mq_78 ci_78 (List.mem_append_right _ ((show _ ∈ my_78_1 from List.mem_of_getElem? (i := 36) rfl)))
theorem cd_78_239 : mt_cd 78 239 = some (.ifCond .ne 5) := mt_cd_of (q := (239, .ifCond .ne 5, 3)) mq_78 ci_78 (List.mem_append_right _ ((show _ ∈ my_78_1 from List.mem_of_getElem? (i := 37) rfl)))
theorem cd_78_242 : mt_cd 78 242 = some (.iload_n 1) := mt_cd_of (q := (242, .iload_n 1, 1)) mq_78 ci_78 (List.mem_append_right _ ((show _ ∈ my_78_1 from List.mem_of_getElem? (i := 38) rfl)))
theorem cd_78_243 : mt_cd 78 243 = some (.ireturn) := mt_cd_of (q := (243, .ireturn, 1)) mq_78 ci_78 (List.mem_append_right _ ((show _ ∈ my_78_1 from List.mem_of_getElem? (i := 39) rfl)))
theorem cd_78_244 : mt_cd 78 244 = some (.iconst 1) := mt_cd_of (q := (244, .iconst 1, 1)) mq_78 ci_78 (List.mem_append_right _ ((show _ ∈ my_78_1 from List.mem_of_getElem? (i := 40) rfl)))
theorem cd_78_245 : mt_cd 78 245 = some (.istore_n 1) := mt_cd_of (q := (245, .istore_n 1, 1)) mq_78 ci_78 (List.mem_append_right _ ((show _ ∈ my_78_1 from List.mem_of_getElem? (i := 41) rfl)))
theorem cd_78_246 : mt_cd 78 246 = some (.iinc 2 1) := mt_cd_of (q := (246, .iinc 2 1, 3)) mq_78 ci_78 (List.mem_append_right _ ((show _ ∈ my_78_1 from List.mem_of_getElem? (i := 42) rfl)))
theorem cd_78_249 : mt_cd 78 249 = some (.goto (-245)) := mt_cd_of (q := (249, .goto (-245), 3)) mq_78 ci_78 (List.mem_append_right _ ((show _ ∈ my_78_1 from List.mem_of_getElem? (i := 43) rfl)))
theorem cd_78_252 : mt_cd 78 252 = some (.iload_n 1) := mt_cd_of (q := (252, .iload_n 1, 1)) mq_78 ci_78 (List.mem_append_right _ ((show _ ∈ my_78_1 from List.mem_of_getElem? (i := 44) rfl)))
theorem cd_78_253 : mt_cd 78 253 = some (.ireturn) := mt_cd_of (q := (253, .ireturn, 1)) mq_78 ci_78 (List.mem_append_right _ ((show _ ∈ my_78_1 from List.mem_of_getElem? (i := 45) rfl)))
theorem b_78_0 {d : Nat} {Q : (Option Value ⊕ Nat) → mi_H → Prop} (n sl : Nat) (f : Nat → mi_C) {l1 : Nat} {o2 : Option Value} {o3 : Option Value} {o4 : Option Value} {o5 : Option Value} (h6 : mi_W d 78 4 [some (.ref l1), some (.int 0), some (.int 0), o4, o5] [] (n, sl, f) Q) : mi_W d 78 0 [some (.ref l1), o2, o3, o4, o5] [] (n, sl, f) Q := by
  refine w_iconst (v := 0) cd_78_0 (by decide) ?_
  refine w_istore_n (ls' := [some (.ref l1), some (.int 0), o3, o4, o5]) cd_78_1 (Nat.le_of_ble_eq_true rfl) rfl ?_
  refine w_iconst (v := 0) cd_78_2 (by decide) ?_
  refine w_istore_n (ls' := [some (.ref l1), some (.int 0), some (.int 0), o4, o5]) cd_78_3 (Nat.le_of_ble_eq_true rfl) rfl ?_
  exact h6
theorem b_78_4 {d : Nat} {Q : (Option Value ⊕ Nat) → mi_H → Prop} (n sl : Nat) (f : Nat → mi_C) {l1 : Nat} {l2 : Int32} {l3 : Int32} {o4 : Option Value} {o5 : Option Value} (h6 : 148 ≤ l3 → mi_W d 78 252 [some (.ref l1), some (.int l2), some (.int l3), o4, o5] [] (n, sl, f) Q) (h7 : ¬ (148 ≤ l3) → mi_W d 78 11 [some (.ref l1), some (.int l2), some (.int l3), o4, o5] [] (n, sl, f) Q) : mi_W d 78 4 [some (.ref l1), some (.int l2), some (.int l3), o4, o5] [] (n, sl, f) Q := by
  refine w_iload_n cd_78_4 rfl ?_
  refine w_sipush (v := 148) cd_78_5 (by decide) ?_
  exact w_if_icmpge cd_78_8 (by decide) h6 h7
theorem b_78_11 {d : Nat} {Q : (Option Value ⊕ Nat) → mi_H → Prop} (n sl : Nat) (f : Nat → mi_C) {l1 : Nat} {l2 : Int32} {l3 : Int32} {o4 : Option Value} {o5 : Option Value} {fs6 : List Value} {x9 : Int32} (h7 : f l1 = .inr (7, fs6)) (h8 : l1 < n) (h10 : fs6[6]? = some (.int x9)) (h11 : ¬ x9 = (0 : Int32) → mi_W d 78 252 [some (.ref l1), some (.int l2), some (.int l3), o4, o5] [] (n, sl, f) Q) (h12 : ¬ (¬ x9 = (0 : Int32)) → mi_W d 78 18 [some (.ref l1), some (.int l2), some (.int l3), o4, o5] [] (n, sl, f) Q) : mi_W d 78 11 [some (.ref l1), some (.int l2), some (.int l3), o4, o5] [] (n, sl, f) Q := by
  refine w_aload_n cd_78_11 rfl ?_
  refine w_getfield cd_78_12 (show mt_f 7 49 = some (7, 6) by decide +kernel) h7 h8 h10 ?_
  exact w_ifne cd_78_15 (by decide) h11 h12
theorem b_78_18 {d : Nat} {Q : (Option Value ⊕ Nat) → mi_H → Prop} (n sl : Nat) (f : Nat → mi_C) {l1 : Nat} {l2 : Int32} {l3 : Int32} {o4 : Option Value} {o5 : Option Value} {fs6 : List Value} {x9 : Nat} {fs11 : List Value} {x14 : Int32} {fs16 : List Value} {x19 : Nat} {fs21 : List Value} (h7 : f l1 = .inr (7, fs6)) (h8 : l1 < n) (h10 : fs6[3]? = some (.ref x9)) (h12 : f x9 = .inr (9, fs11)) (h13 : x9 < n) (h15 : fs11[0]? = some (.int x14)) (h17 : f l1 = .inr (7, fs16)) (h18 : l1 < n) (h20 : fs16[0]? = some (.ref x19)) (h22 : f x19 = .inr (2, fs21)) (h23 : x19 < n) (h24 : mi_W d 79 0 (mi_en 2 [.ref x19, .int x14]) [] (n, sl, f) (mi_Kc d 78 34 [some (.ref l1), some (.int l2), some (.int l3), some (.int x14), some (.int 1)] [] Q)) : mi_W (d + 1) 78 18 [some (.ref l1), some (.int l2), some (.int l3), o4, o5] [] (n, sl, f) Q := by
  refine w_aload_n cd_78_18 rfl ?_
  refine w_getfield cd_78_19 (show mt_f 7 29 = some (7, 3) by decide +kernel) h7 h8 h10 ?_
  refine w_getfield cd_78_22 (show mt_f 7 94 = some (9, 0) by decide +kernel) h12 h13 h15 ?_
  refine w_istore_n (ls' := [some (.ref l1), some (.int l2), some (.int l3), some (.int x14), o5]) cd_78_25 (Nat.le_of_ble_eq_true rfl) rfl ?_
  refine w_iconst (v := 1) cd_78_26 (by decide) ?_
  refine w_istore (ls' := [some (.ref l1), some (.int l2), some (.int l3), some (.int x14), some (.int 1)]) cd_78_27 (Nat.le_of_ble_eq_true rfl) rfl ?_
  refine w_aload_n cd_78_29 rfl ?_
  refine w_getfield cd_78_30 (show mt_f 7 18 = some (7, 0) by decide +kernel) h17 h18 h20 ?_
  refine w_iload_n cd_78_33 rfl ?_
  exact w_invokevirtual cd_78_34 (show mt_m 7 97 = some (79, 0) by decide +kernel) (rest := []) rfl (as := [.ref x19, .int x14]) rfl h22 (Or.inl h23) ⟨Nat.le_of_ble_eq_true rfl, Nat.le_of_ble_eq_true rfl, Nat.le_of_ble_eq_true rfl⟩ h24
theorem b_78_37 {d : Nat} {Q : (Option Value ⊕ Nat) → mi_H → Prop} (n sl : Nat) (f : Nat → mi_C) {l1 : Nat} {l2 : Int32} {l3 : Int32} {l4 : Int32} {l5 : Int32} {s6 : Int32} {t7 : Nat} (h8 : mi_ts 37 181 0 7 #[47, 56, 181, 181, 64, 115, 125, 133] (s6 : Int32).toInt = some t7) (h9 : mi_W d 78 t7 [some (.ref l1), some (.int l2), some (.int l3), some (.int l4), some (.int l5)] [] (n, sl, f) Q) : mi_W d 78 37 [some (.ref l1), some (.int l2), some (.int l3), some (.int l4), some (.int l5)] [.int s6] (n, sl, f) Q := by
  exact w_tableswitch cd_78_37 h8 h9
theorem b_78_84 {d : Nat} {Q : (Option Value ⊕ Nat) → mi_H → Prop} (n sl : Nat) (f : Nat → mi_C) {l1 : Nat} {l2 : Int32} {l3 : Int32} {l4 : Int32} {l5 : Int32} {fs6 : List Value} (h7 : f l1 = .inr (7, fs6)) (h8 : l1 < n) (h9 : mi_W d 81 0 (mi_en 3 [.ref l1]) [] (n, sl, f) (mi_Kc d 78 85 [some (.ref l1), some (.int l2), some (.int l3), some (.int l4), some (.int l5)] [] Q)) : mi_W (d + 1) 78 84 [some (.ref l1), some (.int l2), some (.int l3), some (.int l4), some (.int l5)] [] (n, sl, f) Q := by
  refine w_aload_n cd_78_84 rfl ?_
  exact w_invokevirtual cd_78_85 (show mt_m 7 111 = some (81, 0) by decide +kernel) (rest := []) rfl (as := [.ref l1]) rfl h7 (Or.inl h8) ⟨Nat.le_of_ble_eq_true rfl, Nat.le_of_ble_eq_true rfl, Nat.le_of_ble_eq_true rfl⟩ h9
theorem b_78_88 {d : Nat} {Q : (Option Value ⊕ Nat) → mi_H → Prop} (n sl : Nat) (f : Nat → mi_C) {l1 : Nat} {l2 : Int32} {l3 : Int32} {l4 : Int32} {l5 : Int32} {s6 : Int32} (h7 : mi_W d 78 221 [some (.ref l1), some (.int l2), some (.int l3), some (.int l4), some (.int s6)] [] (n, sl, f) Q) : mi_W d 78 88 [some (.ref l1), some (.int l2), some (.int l3), some (.int l4), some (.int l5)] [.int s6] (n, sl, f) Q := by
  refine w_istore (ls' := [some (.ref l1), some (.int l2), some (.int l3), some (.int l4), some (.int s6)]) cd_78_88 (Nat.le_of_ble_eq_true rfl) rfl ?_
  exact w_goto cd_78_90 (by decide) h7
theorem b_78_93 {d : Nat} {Q : (Option Value ⊕ Nat) → mi_H → Prop} (n sl : Nat) (f : Nat → mi_C) {l1 : Nat} {l2 : Int32} {l3 : Int32} {l4 : Int32} {l5 : Int32} {fs6 : List Value} (h7 : f l1 = .inr (7, fs6)) (h8 : l1 < n) (h9 : mi_W d 84 0 (mi_en 9 [.ref l1, .int l4]) [] (n, sl, f) (mi_Kc d 78 95 [some (.ref l1), some (.int l2), some (.int l3), some (.int l4), some (.int l5)] [] Q)) : mi_W (d + 1) 78 93 [some (.ref l1), some (.int l2), some (.int l3), some (.int l4), some (.int l5)] [] (n, sl, f) Q := by
  refine w_aload_n cd_78_93 rfl ?_
  refine w_iload_n cd_78_94 rfl ?_
  exact w_invokevirtual cd_78_95 (show mt_m 7 114 = some (84, 0) by decide +kernel) (rest := []) rfl (as := [.ref l1, .int l4]) rfl h7 (Or.inl h8) ⟨Nat.le_of_ble_eq_true rfl, Nat.le_of_ble_eq_true rfl, Nat.le_of_ble_eq_true rfl⟩ h9
theorem b_78_98 {d : Nat} {Q : (Option Value ⊕ Nat) → mi_H → Prop} (n sl : Nat) (f : Nat → mi_C) {l1 : Nat} {l2 : Int32} {l3 : Int32} {l4 : Int32} {l5 : Int32} (h6 : mi_W d 78 221 [some (.ref l1), some (.int l2), some (.int l3), some (.int l4), some (.int l5)] [] (n, sl, f) Q) : mi_W d 78 98 [some (.ref l1), some (.int l2), some (.int l3), some (.int l4), some (.int l5)] [] (n, sl, f) Q := by
  exact w_goto cd_78_98 (by decide) h6
theorem b_78_101 {d : Nat} {Q : (Option Value ⊕ Nat) → mi_H → Prop} (n sl : Nat) (f : Nat → mi_C) {l1 : Nat} {l2 : Int32} {l3 : Int32} {l4 : Int32} {l5 : Int32} {fs6 : List Value} {x9 : Nat} {fs11 : List Value} {x14 : Nat} {fs16 : List Value} {x19 : Nat} {fs21 : List Value} {x24 : Nat} (m26 i26 : Nat) (g26 : Nat → Int32) {fs30 : List Value} (h7 : f l1 = .inr (7, fs6)) (h8 : l1 < n) (h10 : fs6[3]? = some (.ref x9)) (h12 : f l1 = .inr (7, fs11)) (h13 : l1 < n) (h15 : fs11[2]? = some (.ref x14)) (h17 : f l1 = .inr (7, fs16)) (h18 : l1 < n) (h20 : fs16[0]? = some (.ref x19)) (h22 : f x19 = .inr (2, fs21)) (h23 : x19 < n) (h25 : fs21[1]? = some (.ref x24)) (h27 : f x24 = .inl (0, m26, .inl g26)) (h28 : x24 < n ∨ x24 = mi_SC) (h29 : mi_ix l4 m26 i26) (h31 : f x14 = .inr (10, fs30)) (h32 : x14 < n) (h33 : mi_W d 90 0 (mi_en 6 [.ref x14, .int (g26 i26), .int 1]) [] (n, sl, f) (mi_Kc d 78 119 [some (.ref l1), some (.int l2), some (.int l3), some (.int l4), some (.int l5)] [.ref x9] Q)) : mi_W (d + 1) 78 101 [some (.ref l1), some (.int l2), some (.int l3), some (.int l4), some (.int l5)] [] (n, sl, f) Q := by
  refine w_aload_n cd_78_101 rfl ?_
  refine w_getfield cd_78_102 (show mt_f 7 29 = some (7, 3) by decide +kernel) h7 h8 h10 ?_
  refine w_aload_n cd_78_105 rfl ?_
  refine w_getfield cd_78_106 (show mt_f 7 38 = some (7, 2) by decide +kernel) h12 h13 h15 ?_
  refine w_aload_n cd_78_109 rfl ?_
  refine w_getfield cd_78_110 (show mt_f 7 18 = some (7, 0) by decide +kernel) h17 h18 h20 ?_
  refine w_getfield cd_78_113 (show mt_f 7 118 = some (2, 1) by decide +kernel) h22 h23 h25 ?_
  refine w_iload_n cd_78_116 rfl ?_
  refine w_iaload cd_78_117 h27 h28 h29 ?_
  refine w_iconst (v := 1) cd_78_118 (by decide) ?_
  exact w_invokevirtual cd_78_119 (show mt_m 7 122 = some (90, 0) by decide +kernel) (rest := [.ref x9]) rfl (as := [.ref x14, .int (g26 i26), .int 1]) rfl h31 (Or.inl h32) ⟨Nat.le_of_ble_eq_true rfl, Nat.le_of_ble_eq_true rfl, Nat.le_of_ble_eq_true rfl⟩ h33
theorem b_78_122 {d : Nat} {Q : (Option Value ⊕ Nat) → mi_H → Prop} (n sl : Nat) (f : Nat → mi_C) {l1 : Nat} {l2 : Int32} {l3 : Int32} {l4 : Int32} {l5 : Int32} {s6 : Int32} {s7 : Nat} (h8 : s6 = (0 : Int32) → mi_W d 78 137 [some (.ref l1), some (.int l2), some (.int l3), some (.int l4), some (.int l5)] [.ref s7] (n, sl, f) Q) (h9 : ¬ (s6 = (0 : Int32)) → mi_W d 78 125 [some (.ref l1), some (.int l2), some (.int l3), some (.int l4), some (.int l5)] [.ref s7] (n, sl, f) Q) : mi_W d 78 122 [some (.ref l1), some (.int l2), some (.int l3), some (.int l4), some (.int l5)] [.int s6, .ref s7] (n, sl, f) Q := by
  exact w_ifeq cd_78_122 (by decide) h8 h9
theorem b_78_125 {d : Nat} {Q : (Option Value ⊕ Nat) → mi_H → Prop} (n sl : Nat) (f : Nat → mi_C) {l1 : Nat} {l2 : Int32} {l3 : Int32} {l4 : Int32} {l5 : Int32} {s6 : Nat} {fs7 : List Value} {x10 : Nat} {fs12 : List Value} {x15 : Nat} (m17 i17 : Nat) (g17 : Nat → Int32) (h8 : f l1 = .inr (7, fs7)) (h9 : l1 < n) (h11 : fs7[0]? = some (.ref x10)) (h13 : f x10 = .inr (2, fs12)) (h14 : x10 < n) (h16 : fs12[2]? = some (.ref x15)) (h18 : f x15 = .inl (0, m17, .inl g17)) (h19 : x15 < n ∨ x15 = mi_SC) (h20 : mi_ix l4 m17 i17) (h21 : mi_W d 78 146 [some (.ref l1), some (.int l2), some (.int l3), some (.int l4), some (.int l5)] [.int (g17 i17), .ref s6] (n, sl, f) Q) : mi_W d 78 125 [some (.ref l1), some (.int l2), some (.int l3), some (.int l4), some (.int l5)] [.ref s6] (n, sl, f) Q := by
  refine w_aload_n cd_78_125 rfl ?_
  refine w_getfield cd_78_126 (show mt_f 7 18 = some (7, 0) by decide +kernel) h8 h9 h11 ?_
  refine w_getfield cd_78_129 (show mt_f 7 126 = some (2, 2) by decide +kernel) h13 h14 h16 ?_
  refine w_iload_n cd_78_132 rfl ?_
  refine w_iaload cd_78_133 h18 h19 h20 ?_
  exact w_goto cd_78_134 (by decide) h21
theorem b_78_137 {d : Nat} {Q : (Option Value ⊕ Nat) → mi_H → Prop} (n sl : Nat) (f : Nat → mi_C) {l1 : Nat} {l2 : Int32} {l3 : Int32} {l4 : Int32} {l5 : Int32} {s6 : Nat} {fs7 : List Value} {x10 : Nat} {fs12 : List Value} {x15 : Nat} (m17 i17 : Nat) (g17 : Nat → Int32) (h8 : f l1 = .inr (7, fs7)) (h9 : l1 < n) (h11 : fs7[0]? = some (.ref x10)) (h13 : f x10 = .inr (2, fs12)) (h14 : x10 < n) (h16 : fs12[3]? = some (.ref x15)) (h18 : f x15 = .inl (0, m17, .inl g17)) (h19 : x15 < n ∨ x15 = mi_SC) (h20 : mi_ix l4 m17 i17) (h21 : mi_W d 78 146 [some (.ref l1), some (.int l2), some (.int l3), some (.int l4), some (.int l5)] [.int (g17 i17), .ref s6] (n, sl, f) Q) : mi_W d 78 137 [some (.ref l1), some (.int l2), some (.int l3), some (.int l4), some (.int l5)] [.ref s6] (n, sl, f) Q := by
  refine w_aload_n cd_78_137 rfl ?_
  refine w_getfield cd_78_138 (show mt_f 7 18 = some (7, 0) by decide +kernel) h8 h9 h11 ?_
  refine w_getfield cd_78_141 (show mt_f 7 129 = some (2, 3) by decide +kernel) h13 h14 h16 ?_
  refine w_iload_n cd_78_144 rfl ?_
  refine w_iaload cd_78_145 h18 h19 h20 ?_
  exact h21
theorem b_78_146 {d : Nat} {Q : (Option Value ⊕ Nat) → mi_H → Prop} (n sl : Nat) (f : Nat → mi_C) {l1 : Nat} {l2 : Int32} {l3 : Int32} {l4 : Int32} {l5 : Int32} {s6 : Int32} {s7 : Nat} {fs8 : List Value} (h9 : f s7 = .inr (9, fs8)) (h10 : s7 < n) (h11 : 0 < fs8.length) (h12 : mi_W d 78 221 [some (.ref l1), some (.int l2), some (.int l3), some (.int l4), some (.int l5)] [] (n, sl, (va_up f s7 (.inr (9, fs8.set 0 (.int s6))))) Q) : mi_W d 78 146 [some (.ref l1), some (.int l2), some (.int l3), some (.int l4), some (.int l5)] [.int s6, .ref s7] (n, sl, f) Q := by
  refine w_putfield (w := .int s6) cd_78_146 (show mt_f 7 94 = some (9, 0) by decide +kernel) h9 h10 ⟨h11, rfl, Or.inl (by decide)⟩ ?_
  exact w_goto cd_78_149 (by decide) h12
theorem b_78_152 {d : Nat} {Q : (Option Value ⊕ Nat) → mi_H → Prop} (n sl : Nat) (f : Nat → mi_C) {l1 : Nat} {l2 : Int32} {l3 : Int32} {l4 : Int32} {l5 : Int32} {fs6 : List Value} (h7 : f l1 = .inr (7, fs6)) (h8 : l1 < n) (h9 : mi_W d 99 0 (mi_en 4 [.ref l1, .int l4]) [] (n, sl, f) (mi_Kc d 78 154 [some (.ref l1), some (.int l2), some (.int l3), some (.int l4), some (.int l5)] [] Q)) : mi_W (d + 1) 78 152 [some (.ref l1), some (.int l2), some (.int l3), some (.int l4), some (.int l5)] [] (n, sl, f) Q := by
  refine w_aload_n cd_78_152 rfl ?_
  refine w_iload_n cd_78_153 rfl ?_
  exact w_invokevirtual cd_78_154 (show mt_m 7 132 = some (99, 0) by decide +kernel) (rest := []) rfl (as := [.ref l1, .int l4]) rfl h7 (Or.inl h8) ⟨Nat.le_of_ble_eq_true rfl, Nat.le_of_ble_eq_true rfl, Nat.le_of_ble_eq_true rfl⟩ h9
theorem b_78_157 {d : Nat} {Q : (Option Value ⊕ Nat) → mi_H → Prop} (n sl : Nat) (f : Nat → mi_C) {l1 : Nat} {l2 : Int32} {l3 : Int32} {l4 : Int32} {l5 : Int32} {s6 : Int32} (h7 : mi_W d 78 221 [some (.ref l1), some (.int l2), some (.int l3), some (.int l4), some (.int s6)] [] (n, sl, f) Q) : mi_W d 78 157 [some (.ref l1), some (.int l2), some (.int l3), some (.int l4), some (.int l5)] [.int s6] (n, sl, f) Q := by
  refine w_istore (ls' := [some (.ref l1), some (.int l2), some (.int l3), some (.int l4), some (.int s6)]) cd_78_157 (Nat.le_of_ble_eq_true rfl) rfl ?_
  exact w_goto cd_78_159 (by decide) h7
theorem b_78_162 {d : Nat} {Q : (Option Value ⊕ Nat) → mi_H → Prop} (n sl : Nat) (f : Nat → mi_C) {l1 : Nat} {l2 : Int32} {l3 : Int32} {l4 : Int32} {l5 : Int32} {fs6 : List Value} (h7 : f l1 = .inr (7, fs6)) (h8 : l1 < n) (h9 : mi_W d 100 0 (mi_en 5 [.ref l1, .int l4]) [] (n, sl, f) (mi_Kc d 78 164 [some (.ref l1), some (.int l2), some (.int l3), some (.int l4), some (.int l5)] [] Q)) : mi_W (d + 1) 78 162 [some (.ref l1), some (.int l2), some (.int l3), some (.int l4), some (.int l5)] [] (n, sl, f) Q := by
  refine w_aload_n cd_78_162 rfl ?_
  refine w_iload_n cd_78_163 rfl ?_
  exact w_invokevirtual cd_78_164 (show mt_m 7 136 = some (100, 0) by decide +kernel) (rest := []) rfl (as := [.ref l1, .int l4]) rfl h7 (Or.inl h8) ⟨Nat.le_of_ble_eq_true rfl, Nat.le_of_ble_eq_true rfl, Nat.le_of_ble_eq_true rfl⟩ h9
theorem b_78_167 {d : Nat} {Q : (Option Value ⊕ Nat) → mi_H → Prop} (n sl : Nat) (f : Nat → mi_C) {l1 : Nat} {l2 : Int32} {l3 : Int32} {l4 : Int32} {l5 : Int32} (h6 : mi_W d 78 221 [some (.ref l1), some (.int l2), some (.int l3), some (.int l4), some (.int l5)] [] (n, sl, f) Q) : mi_W d 78 167 [some (.ref l1), some (.int l2), some (.int l3), some (.int l4), some (.int l5)] [] (n, sl, f) Q := by
  exact w_goto cd_78_167 (by decide) h6
theorem b_78_170 {d : Nat} {Q : (Option Value ⊕ Nat) → mi_H → Prop} (n sl : Nat) (f : Nat → mi_C) {l1 : Nat} {l2 : Int32} {l3 : Int32} {l4 : Int32} {l5 : Int32} {fs6 : List Value} {x9 : Nat} {fs11 : List Value} {x14 : Nat} {fs16 : List Value} {x19 : Nat} (m21 i21 : Nat) (g21 : Nat → Int32) {fs25 : List Value} (h7 : f l1 = .inr (7, fs6)) (h8 : l1 < n) (h10 : fs6[2]? = some (.ref x9)) (h12 : f l1 = .inr (7, fs11)) (h13 : l1 < n) (h15 : fs11[0]? = some (.ref x14)) (h17 : f x14 = .inr (2, fs16)) (h18 : x14 < n) (h20 : fs16[1]? = some (.ref x19)) (h22 : f x19 = .inl (0, m21, .inl g21)) (h23 : x19 < n ∨ x19 = mi_SC) (h24 : mi_ix l4 m21 i21) (h26 : f x9 = .inr (10, fs25)) (h27 : x9 < n) (h28 : mi_W d 90 0 (mi_en 6 [.ref x9, .int (g21 i21), .int 1]) [] (n, sl, f) (mi_Kc d 78 184 [some (.ref l1), some (.int l2), some (.int l3), some (.int l4), some (.int l5)] [] Q)) : mi_W (d + 1) 78 170 [some (.ref l1), some (.int l2), some (.int l3), some (.int l4), some (.int l5)] [] (n, sl, f) Q := by
  refine w_aload_n cd_78_170 rfl ?_
  refine w_getfield cd_78_171 (show mt_f 7 38 = some (7, 2) by decide +kernel) h7 h8 h10 ?_
  refine w_aload_n cd_78_174 rfl ?_
  refine w_getfield cd_78_175 (show mt_f 7 18 = some (7, 0) by decide +kernel) h12 h13 h15 ?_
  refine w_getfield cd_78_178 (show mt_f 7 118 = some (2, 1) by decide +kernel) h17 h18 h20 ?_
  refine w_iload_n cd_78_181 rfl ?_
  refine w_iaload cd_78_182 h22 h23 h24 ?_
  refine w_iconst (v := 1) cd_78_183 (by decide) ?_
  exact w_invokevirtual cd_78_184 (show mt_m 7 122 = some (90, 0) by decide +kernel) (rest := []) rfl (as := [.ref x9, .int (g21 i21), .int 1]) rfl h26 (Or.inl h27) ⟨Nat.le_of_ble_eq_true rfl, Nat.le_of_ble_eq_true rfl, Nat.le_of_ble_eq_true rfl⟩ h28
theorem b_78_187 {d : Nat} {Q : (Option Value ⊕ Nat) → mi_H → Prop} (n sl : Nat) (f : Nat → mi_C) {l1 : Nat} {l2 : Int32} {l3 : Int32} {l4 : Int32} {l5 : Int32} {s6 : Int32} (h7 : ¬ s6 = (0 : Int32) → mi_W d 78 199 [some (.ref l1), some (.int l2), some (.int l3), some (.int l4), some (.int l5)] [] (n, sl, f) Q) (h8 : ¬ (¬ s6 = (0 : Int32)) → mi_W d 78 190 [some (.ref l1), some (.int l2), some (.int l3), some (.int l4), some (.int l5)] [] (n, sl, f) Q) : mi_W d 78 187 [some (.ref l1), some (.int l2), some (.int l3), some (.int l4), some (.int l5)] [.int s6] (n, sl, f) Q := by
  exact w_ifne cd_78_187 (by decide) h7 h8
theorem b_78_190 {d : Nat} {Q : (Option Value ⊕ Nat) → mi_H → Prop} (n sl : Nat) (f : Nat → mi_C) {l1 : Nat} {l2 : Int32} {l3 : Int32} {l4 : Int32} {l5 : Int32} {fs6 : List Value} {x9 : Nat} {fs11 : List Value} (h7 : f l1 = .inr (7, fs6)) (h8 : l1 < n) (h10 : fs6[7]? = some (.ref x9)) (h12 : f x9 = .inr (8, fs11)) (h13 : x9 < n) (h14 : mi_W d 96 0 (mi_en 3 [.ref x9, .int 5, .int l4]) [] (n, sl, f) (mi_Kc d 78 196 [some (.ref l1), some (.int l2), some (.int l3), some (.int l4), some (.int l5)] [] Q)) : mi_W (d + 1) 78 190 [some (.ref l1), some (.int l2), some (.int l3), some (.int l4), some (.int l5)] [] (n, sl, f) Q := by
  refine w_aload_n cd_78_190 rfl ?_
  refine w_getfield cd_78_191 (show mt_f 7 12 = some (7, 7) by decide +kernel) h7 h8 h10 ?_
  refine w_iconst (v := 5) cd_78_194 (by decide) ?_
  refine w_iload_n cd_78_195 rfl ?_
  exact w_invokevirtual cd_78_196 (show mt_m 7 139 = some (96, 0) by decide +kernel) (rest := []) rfl (as := [.ref x9, .int 5, .int l4]) rfl h12 (Or.inl h13) ⟨Nat.le_of_ble_eq_true rfl, Nat.le_of_ble_eq_true rfl, Nat.le_of_ble_eq_true rfl⟩ h14
theorem b_78_199 {d : Nat} {Q : (Option Value ⊕ Nat) → mi_H → Prop} (n sl : Nat) (f : Nat → mi_C) {l1 : Nat} {l2 : Int32} {l3 : Int32} {l4 : Int32} {l5 : Int32} {fs6 : List Value} {x9 : Nat} {fs11 : List Value} {x14 : Nat} {fs16 : List Value} {x19 : Nat} (m21 i21 : Nat) (g21 : Nat → Int32) {fs25 : List Value} (h7 : f l1 = .inr (7, fs6)) (h8 : l1 < n) (h10 : fs6[3]? = some (.ref x9)) (h12 : f l1 = .inr (7, fs11)) (h13 : l1 < n) (h15 : fs11[0]? = some (.ref x14)) (h17 : f x14 = .inr (2, fs16)) (h18 : x14 < n) (h20 : fs16[3]? = some (.ref x19)) (h22 : f x19 = .inl (0, m21, .inl g21)) (h23 : x19 < n ∨ x19 = mi_SC) (h24 : mi_ix l4 m21 i21) (h26 : f x9 = .inr (9, fs25)) (h27 : x9 < n) (h28 : 0 < fs25.length) (h29 : mi_W d 78 221 [some (.ref l1), some (.int l2), some (.int l3), some (.int l4), some (.int l5)] [] (n, sl, (va_up f x9 (.inr (9, fs25.set 0 (.int (g21 i21)))))) Q) : mi_W d 78 199 [some (.ref l1), some (.int l2), some (.int l3), some (.int l4), some (.int l5)] [] (n, sl, f) Q := by
  refine w_aload_n cd_78_199 rfl ?_
  refine w_getfield cd_78_200 (show mt_f 7 29 = some (7, 3) by decide +kernel) h7 h8 h10 ?_
  refine w_aload_n cd_78_203 rfl ?_
  refine w_getfield cd_78_204 (show mt_f 7 18 = some (7, 0) by decide +kernel) h12 h13 h15 ?_
  refine w_getfield cd_78_207 (show mt_f 7 129 = some (2, 3) by decide +kernel) h17 h18 h20 ?_
  refine w_iload_n cd_78_210 rfl ?_
  refine w_iaload cd_78_211 h22 h23 h24 ?_
  refine w_putfield (w := .int (g21 i21)) cd_78_212 (show mt_f 7 94 = some (9, 0) by decide +kernel) h26 h27 ⟨h28, rfl, Or.inl (by decide)⟩ ?_
  exact w_goto cd_78_215 (by decide) h29
theorem b_78_218 {d : Nat} {Q : (Option Value ⊕ Nat) → mi_H → Prop} (n sl : Nat) (f : Nat → mi_C) {l1 : Nat} {l2 : Int32} {l3 : Int32} {l4 : Int32} {l5 : Int32} (h6 : mi_W d 78 221 [some (.ref l1), some (.int l2), some (.int l3), some (.int l4), some (.int 0)] [] (n, sl, f) Q) : mi_W d 78 218 [some (.ref l1), some (.int l2), some (.int l3), some (.int l4), some (.int l5)] [] (n, sl, f) Q := by
  refine w_iconst (v := 0) cd_78_218 (by decide) ?_
  refine w_istore (ls' := [some (.ref l1), some (.int l2), some (.int l3), some (.int l4), some (.int 0)]) cd_78_219 (Nat.le_of_ble_eq_true rfl) rfl ?_
  exact h6
theorem b_78_221 {d : Nat} {Q : (Option Value ⊕ Nat) → mi_H → Prop} (n sl : Nat) (f : Nat → mi_C) {l1 : Nat} {l2 : Int32} {l3 : Int32} {l4 : Int32} {l5 : Int32} {fs6 : List Value} {x9 : Nat} {fs11 : List Value} {x14 : Int32} (h7 : f l1 = .inr (7, fs6)) (h8 : l1 < n) (h10 : fs6[2]? = some (.ref x9)) (h12 : f x9 = .inr (10, fs11)) (h13 : x9 < n) (h15 : fs11[4]? = some (.int x14)) (h16 : x14 = (0 : Int32) → mi_W d 78 237 [some (.ref l1), some (.int l2), some (.int l3), some (.int l4), some (.int l5)] [] (n, sl, f) Q) (h17 : ¬ (x14 = (0 : Int32)) → mi_W d 78 231 [some (.ref l1), some (.int l2), some (.int l3), some (.int l4), some (.int l5)] [] (n, sl, f) Q) : mi_W d 78 221 [some (.ref l1), some (.int l2), some (.int l3), some (.int l4), some (.int l5)] [] (n, sl, f) Q := by
  refine w_aload_n cd_78_221 rfl ?_
  refine w_getfield cd_78_222 (show mt_f 7 38 = some (7, 2) by decide +kernel) h7 h8 h10 ?_
  refine w_getfield cd_78_225 (show mt_f 7 143 = some (10, 4) by decide +kernel) h12 h13 h15 ?_
  exact w_ifeq cd_78_228 (by decide) h16 h17
theorem b_78_231 {d : Nat} {Q : (Option Value ⊕ Nat) → mi_H → Prop} (n sl : Nat) (f : Nat → mi_C) {l1 : Nat} {l2 : Int32} {l3 : Int32} {l4 : Int32} {l5 : Int32} {fs6 : List Value} (h7 : f l1 = .inr (7, fs6)) (h8 : l1 < n) (h9 : 6 < fs6.length) (h10 : mi_W d 78 237 [some (.ref l1), some (.int l2), some (.int l3), some (.int l4), some (.int l5)] [] (n, sl, (va_up f l1 (.inr (7, fs6.set 6 (.int 6))))) Q) : mi_W d 78 231 [some (.ref l1), some (.int l2), some (.int l3), some (.int l4), some (.int l5)] [] (n, sl, f) Q := by
  refine w_aload_n cd_78_231 rfl ?_
  refine w_bipush (v := 6) cd_78_232 (by decide) ?_
  refine w_putfield (w := .int 6) cd_78_234 (show mt_f 7 49 = some (7, 6) by decide +kernel) h7 h8 ⟨h9, rfl, Or.inl (by decide)⟩ ?_
  exact h10
theorem b_78_237 {d : Nat} {Q : (Option Value ⊕ Nat) → mi_H → Prop} (n sl : Nat) (f : Nat → mi_C) {l1 : Nat} {l2 : Int32} {l3 : Int32} {l4 : Int32} {l5 : Int32} (h6 : ¬ l5 = (0 : Int32) → mi_W d 78 244 [some (.ref l1), some (.int l2), some (.int l3), some (.int l4), some (.int l5)] [] (n, sl, f) Q) (h7 : ¬ (¬ l5 = (0 : Int32)) → mi_W d 78 242 [some (.ref l1), some (.int l2), some (.int l3), some (.int l4), some (.int l5)] [] (n, sl, f) Q) : mi_W d 78 237 [some (.ref l1), some (.int l2), some (.int l3), some (.int l4), some (.int l5)] [] (n, sl, f) Q := by
  refine w_iload cd_78_237 rfl ?_
  exact w_ifne cd_78_239 (by decide) h6 h7
theorem b_78_242 {d : Nat} {Q : (Option Value ⊕ Nat) → mi_H → Prop} (n sl : Nat) (f : Nat → mi_C) {l1 : Nat} {l2 : Int32} {l3 : Int32} {l4 : Int32} {l5 : Int32} (h6 : l2 = 0 ∨ l2 = 1) (h7 : Q (.inl (some (.int l2))) (n, sl, f)) : mi_W d 78 242 [some (.ref l1), some (.int l2), some (.int l3), some (.int l4), some (.int l5)] [] (n, sl, f) Q := by
  refine w_iload_n cd_78_242 rfl ?_
  exact w_ireturn_z cd_78_243 (by decide +kernel) h6 h7
theorem b_78_244 {d : Nat} {Q : (Option Value ⊕ Nat) → mi_H → Prop} (n sl : Nat) (f : Nat → mi_C) {l1 : Nat} {l2 : Int32} {l3 : Int32} {l4 : Int32} {l5 : Int32} (h6 : mi_W d 78 4 [some (.ref l1), some (.int 1), some (.int (l3 + 1)), some (.int l4), some (.int l5)] [] (n, sl, f) Q) : mi_W d 78 244 [some (.ref l1), some (.int l2), some (.int l3), some (.int l4), some (.int l5)] [] (n, sl, f) Q := by
  refine w_iconst (v := 1) cd_78_244 (by decide) ?_
  refine w_istore_n (ls' := [some (.ref l1), some (.int 1), some (.int l3), some (.int l4), some (.int l5)]) cd_78_245 (Nat.le_of_ble_eq_true rfl) rfl ?_
  refine w_iinc (v := 1) (ls' := [some (.ref l1), some (.int 1), some (.int (l3 + 1)), some (.int l4), some (.int l5)]) cd_78_246 rfl (by decide) rfl ?_
  exact w_goto cd_78_249 (by decide) h6
theorem b_78_252 {d : Nat} {Q : (Option Value ⊕ Nat) → mi_H → Prop} (n sl : Nat) (f : Nat → mi_C) {l1 : Nat} {l2 : Int32} {l3 : Int32} {o4 : Option Value} {o5 : Option Value} (h6 : l2 = 0 ∨ l2 = 1) (h7 : Q (.inl (some (.int l2))) (n, sl, f)) : mi_W d 78 252 [some (.ref l1), some (.int l2), some (.int l3), o4, o5] [] (n, sl, f) Q := by
  refine w_iload_n cd_78_252 rfl ?_
  exact w_ireturn_z cd_78_253 (by decide +kernel) h6 h7
end
