section
/-! MarloweHost$Reader.readName(LMarloweHost$Names;)I -/
set_option maxRecDepth 100000 in
theorem mq_43 : mt_q 43 = my_43 := rfl
set_option maxRecDepth 100000 in
theorem ci_43 : mt_inc 0 my_43.cd = true := by decide +kernel
theorem cd_43_0 : mt_cd 43 0 = some (.aload_n 0) := mt_cd_of (q := (0, .aload_n 0, 1)) mq_43 ci_43 (List.mem_of_getElem? (i := 0) rfl)
theorem cd_43_1 : mt_cd 43 1 = some (.aload_n 0) := mt_cd_of (q := (1, .aload_n 0, 1)) mq_43 ci_43 (List.mem_of_getElem? (i := 1) rfl)
theorem cd_43_2 : mt_cd 43 2 = some (.getfield 15) := mt_cd_of (q := (2, .getfield 15, 3)) mq_43 ci_43 (List.mem_of_getElem? (i := 2) rfl)
theorem cd_43_5 : mt_cd 43 5 = some (.getfield 67) := mt_cd_of (q := (5, .getfield 67, 3)) mq_43 ci_43 (List.mem_of_getElem? (i := 3) rfl)
theorem cd_43_8 : mt_cd 43 8 = some (.bipush 38) := mt_cd_of (q := (8, .bipush 38, 2)) mq_43 ci_43 (List.mem_of_getElem? (i := 4) rfl)
theorem cd_43_10 : mt_cd 43 10 = some (.if_icmp .ne 7) := mt_cd_of (q := (10, .if_icmp .ne 7, 3)) mq_43 ci_43 (List.mem_of_getElem? (i := 5) rfl)
theorem cd_43_13 : mt_cd 43 13 = some (.iconst 1) := mt_cd_of (q := (13, .iconst 1, 1)) mq_43 ci_43 (List.mem_of_getElem? (i := 6) rfl)
theorem cd_43_14 : mt_cd 43 14 = some (.goto 4) := mt_cd_of (q := (14, .goto 4, 3)) mq_43 ci_43 (List.mem_of_getElem? (i := 7) rfl)
theorem cd_43_17 : mt_cd 43 17 = some (.iconst 0) := mt_cd_of (q := (17, .iconst 0, 1)) mq_43 ci_43 (List.mem_of_getElem? (i := 8) rfl)
theorem cd_43_18 : mt_cd 43 18 = some (.invokevirtual 70) := mt_cd_of (q := (18, .invokevirtual 70, 3)) mq_43 ci_43 (List.mem_of_getElem? (i := 9) rfl)
theorem cd_43_21 : mt_cd 43 21 = some (.aload_n 1) := mt_cd_of (q := (21, .aload_n 1, 1)) mq_43 ci_43 (List.mem_of_getElem? (i := 10) rfl)
theorem cd_43_22 : mt_cd 43 22 = some (.aload_n 0) := mt_cd_of (q := (22, .aload_n 0, 1)) mq_43 ci_43 (List.mem_of_getElem? (i := 11) rfl)
theorem cd_43_23 : mt_cd 43 23 = some (.getfield 15) := mt_cd_of (q := (23, .getfield 15, 3)) mq_43 ci_43 (List.mem_of_getElem? (i := 12) rfl)
theorem cd_43_26 : mt_cd 43 26 = some (.getfield 74) := mt_cd_of (q := (26, .getfield 74, 3)) mq_43 ci_43 (List.mem_of_getElem? (i := 13) rfl)
theorem cd_43_29 : mt_cd 43 29 = some (.aload_n 0) := mt_cd_of (q := (29, .aload_n 0, 1)) mq_43 ci_43 (List.mem_of_getElem? (i := 14) rfl)
theorem cd_43_30 : mt_cd 43 30 = some (.getfield 15) := mt_cd_of (q := (30, .getfield 15, 3)) mq_43 ci_43 (List.mem_of_getElem? (i := 15) rfl)
theorem cd_43_33 : mt_cd 43 33 = some (.getfield 170) := mt_cd_of (q := (33, .getfield 170, 3)) mq_43 ci_43 (List.mem_of_getElem? (i := 16) rfl)
theorem cd_43_36 : mt_cd 43 36 = some (.iconst (-1)) := mt_cd_of (q := (36, .iconst (-1), 1)) mq_43 ci_43 (List.mem_of_getElem? (i := 17) rfl)
theorem cd_43_37 : mt_cd 43 37 = some (.invokevirtual 173) := mt_cd_of (q := (37, .invokevirtual 173, 3)) mq_43 ci_43 (List.mem_of_getElem? (i := 18) rfl)
theorem cd_43_40 : mt_cd 43 40 = some (.istore_n 2) := mt_cd_of (q := (40, .istore_n 2, 1)) mq_43 ci_43 (List.mem_of_getElem? (i := 19) rfl)
theorem cd_43_41 : mt_cd 43 41 = some (.iload_n 2) := mt_cd_of (q := (41, .iload_n 2, 1)) mq_43 ci_43 (List.mem_of_getElem? (i := 20) rfl)
theorem cd_43_42 : mt_cd 43 42 = some (.iconst (-1)) := mt_cd_of (q := (42, .iconst (-1), 1)) mq_43 ci_43 (List.mem_of_getElem? (i := 21) rfl)
theorem cd_43_43 : mt_cd 43 43 = some (.if_icmp .ne 31) := mt_cd_of (q := (43, .if_icmp .ne 31, 3)) mq_43 ci_43 (List.mem_of_getElem? (i := 22) rfl)
theorem cd_43_46 : mt_cd 43 46 = some (.aload_n 0) := mt_cd_of (q := (46, .aload_n 0, 1)) mq_43 ci_43 (List.mem_of_getElem? (i := 23) rfl)
theorem cd_43_47 : mt_cd 43 47 = some (.aload_n 1) := mt_cd_of (q := (47, .aload_n 1, 1)) mq_43 ci_43 (List.mem_of_getElem? (i := 24) rfl)
theorem cd_43_48 : mt_cd 43 48 = some (.invokevirtual 176) := mt_cd_of (q := (48, .invokevirtual 176, 3)) mq_43 ci_43 (List.mem_of_getElem? (i := 25) rfl)
theorem cd_43_51 : mt_cd 43 51 = some (.invokevirtual 70) := mt_cd_of (q := (51, .invokevirtual 70, 3)) mq_43 ci_43 (List.mem_of_getElem? (i := 26) rfl)
theorem cd_43_54 : mt_cd 43 54 = some (.aload_n 1) := mt_cd_of (q := (54, .aload_n 1, 1)) mq_43 ci_43 (List.mem_of_getElem? (i := 27) rfl)
theorem cd_43_55 : mt_cd 43 55 = some (.aload_n 0) := mt_cd_of (q := (55, .aload_n 0, 1)) mq_43 ci_43 (List.mem_of_getElem? (i := 28) rfl)
theorem cd_43_56 : mt_cd 43 56 = some (.getfield 15) := mt_cd_of (q := (56, .getfield 15, 3)) mq_43 ci_43 (List.mem_of_getElem? (i := 29) rfl)
theorem cd_43_59 : mt_cd 43 59 = some (.getfield 74) := mt_cd_of (q := (59, .getfield 74, 3)) mq_43 ci_43 (List.mem_of_getElem? (i := 30) rfl)
theorem cd_43_62 : mt_cd 43 62 = some (.aload_n 0) := mt_cd_of (q := (62, .aload_n 0, 1)) mq_43 ci_43 (List.mem_of_getElem? (i := 31) rfl)
theorem cd_43_63 : mt_cd 43 63 = some (.getfield 15) := mt_cd_of (q := (63, .getfield 15, 3)) mq_43 ci_43 (List.mem_of_getElem? (i := 32) rfl)
theorem cd_43_66 : mt_cd 43 66 = some (.getfield 170) := mt_cd_of (q := (66, .getfield 170, 3)) mq_43 ci_43 (List.mem_of_getElem? (i := 33) rfl)
theorem cd_43_69 : mt_cd 43 69 = some (.iconst (-1)) := mt_cd_of (q := (69, .iconst (-1), 1)) mq_43 ci_43 (List.mem_of_getElem? (i := 34) rfl)
theorem cd_43_70 : mt_cd 43 70 = some (.invokevirtual 180) := mt_cd_of (q := (70, .invokevirtual 180, 3)) mq_43 ci_43 (List.mem_of_getElem? (i := 35) rfl)
theorem cd_43_73 : mt_cd 43 73 = some (.istore_n 2) := mt_cd_of (q := (73, .istore_n 2, 1)) mq_43 ci_43 (List.mem_of_getElem? (i := 36) rfl)
theorem cd_43_74 : mt_cd 43 74 = some (.aload_n 0) := mt_cd_of (q := (74, .aload_n 0, 1)) mq_43 ci_43 (List.mem_of_getElem? (i := 37) rfl)
theorem cd_43_75 : mt_cd 43 75 = some (.getfield 15) := mt_cd_of (q := (75, .getfield 15, 3)) mq_43 ci_43 (List.mem_of_getElem? (i := 38) rfl)
theorem cd_43_78 : mt_cd 43 78 = some (.invokevirtual 84) := mt_cd_of (q := (78, .invokevirtual 84, 3)) mq_43 ci_43 (List.mem_of_getElem? (i := 39) rfl)
theorem cd_43_81 : mt_cd 43 81 = some (.iload_n 2) := mt_cd_of (q := (81, .iload_n 2, 1)) mq_43 ci_43 (List.mem_of_getElem? (i := 40) rfl)
theorem cd_43_82 : mt_cd 43 82 = some (.ireturn) := mt_cd_of (q := (82, .ireturn, 1)) mq_43 ci_43 (List.mem_of_getElem? (i := 41) rfl)
theorem b_43_0 {d : Nat} {Q : (Option Value ⊕ Nat) → mi_H → Prop} (n sl : Nat) (f : Nat → mi_C) {l1 : Nat} {l2 : Nat} {o3 : Option Value} {fs4 : List Value} {x7 : Nat} {fs9 : List Value} {x12 : Int32} (h5 : f l1 = .inr (3, fs4)) (h6 : l1 < n) (h8 : fs4[0]? = some (.ref x7)) (h10 : f x7 = .inr (1, fs9)) (h11 : x7 < n) (h13 : fs9[2]? = some (.int x12)) (h14 : ¬ x12 = 38 → mi_W d 43 17 [some (.ref l1), some (.ref l2), o3] [.ref l1] (n, sl, f) Q) (h15 : ¬ (¬ x12 = 38) → mi_W d 43 13 [some (.ref l1), some (.ref l2), o3] [.ref l1] (n, sl, f) Q) : mi_W d 43 0 [some (.ref l1), some (.ref l2), o3] [] (n, sl, f) Q := by
  refine w_aload_n cd_43_0 rfl ?_
  refine w_aload_n cd_43_1 rfl ?_
  refine w_getfield cd_43_2 (show mt_f 3 15 = some (3, 0) by decide +kernel) h5 h6 h8 ?_
  refine w_getfield cd_43_5 (show mt_f 3 67 = some (1, 2) by decide +kernel) h10 h11 h13 ?_
  refine w_bipush (v := 38) cd_43_8 (by decide) ?_
  exact w_if_icmpne cd_43_10 (by decide) h14 h15
theorem b_43_13 {d : Nat} {Q : (Option Value ⊕ Nat) → mi_H → Prop} (n sl : Nat) (f : Nat → mi_C) {l1 : Nat} {l2 : Nat} {o3 : Option Value} {s4 : Nat} (h5 : mi_W d 43 18 [some (.ref l1), some (.ref l2), o3] [.int 1, .ref s4] (n, sl, f) Q) : mi_W d 43 13 [some (.ref l1), some (.ref l2), o3] [.ref s4] (n, sl, f) Q := by
  refine w_iconst (v := 1) cd_43_13 (by decide) ?_
  exact w_goto cd_43_14 (by decide) h5
theorem b_43_17 {d : Nat} {Q : (Option Value ⊕ Nat) → mi_H → Prop} (n sl : Nat) (f : Nat → mi_C) {l1 : Nat} {l2 : Nat} {o3 : Option Value} {s4 : Nat} (h5 : mi_W d 43 18 [some (.ref l1), some (.ref l2), o3] [.int 0, .ref s4] (n, sl, f) Q) : mi_W d 43 17 [some (.ref l1), some (.ref l2), o3] [.ref s4] (n, sl, f) Q := by
  refine w_iconst (v := 0) cd_43_17 (by decide) ?_
  exact h5
theorem b_43_18 {d : Nat} {Q : (Option Value ⊕ Nat) → mi_H → Prop} (n sl : Nat) (f : Nat → mi_C) {l1 : Nat} {l2 : Nat} {o3 : Option Value} {s4 : Int32} {s5 : Nat} {fs6 : List Value} (h7 : f s5 = .inr (3, fs6)) (h8 : s5 < n) (h9 : mi_W d 38 0 (mi_en 2 [.ref s5, .int s4]) [] (n, sl, f) (mi_Kc d 43 18 [some (.ref l1), some (.ref l2), o3] [] Q)) : mi_W (d + 1) 43 18 [some (.ref l1), some (.ref l2), o3] [.int s4, .ref s5] (n, sl, f) Q := by
  exact w_invokevirtual cd_43_18 (show mt_m 3 70 = some (38, 0) by decide +kernel) (rest := []) rfl (as := [.ref s5, .int s4]) rfl h7 (Or.inl h8) ⟨Nat.le_of_ble_eq_true rfl, Nat.le_of_ble_eq_true rfl, Nat.le_of_ble_eq_true rfl⟩ h9
theorem b_43_21 {d : Nat} {Q : (Option Value ⊕ Nat) → mi_H → Prop} (n sl : Nat) (f : Nat → mi_C) {l1 : Nat} {l2 : Nat} {o3 : Option Value} {fs4 : List Value} {x7 : Nat} {fs9 : List Value} {x12 : Int32} {fs14 : List Value} {x17 : Nat} {fs19 : List Value} {x22 : Int32} {fs24 : List Value} (h5 : f l1 = .inr (3, fs4)) (h6 : l1 < n) (h8 : fs4[0]? = some (.ref x7)) (h10 : f x7 = .inr (1, fs9)) (h11 : x7 < n) (h13 : fs9[3]? = some (.int x12)) (h15 : f l1 = .inr (3, fs14)) (h16 : l1 < n) (h18 : fs14[0]? = some (.ref x17)) (h20 : f x17 = .inr (1, fs19)) (h21 : x17 < n) (h23 : fs19[4]? = some (.int x22)) (h25 : f l2 = .inr (4, fs24)) (h26 : l2 < n) (h27 : mi_W d 44 0 (mi_en 5 [.ref l2, .int x12, .int x22, .int (-1)]) [] (n, sl, f) (mi_Kc d 43 37 [some (.ref l1), some (.ref l2), o3] [] Q)) : mi_W (d + 1) 43 21 [some (.ref l1), some (.ref l2), o3] [] (n, sl, f) Q := by
  refine w_aload_n cd_43_21 rfl ?_
  refine w_aload_n cd_43_22 rfl ?_
  refine w_getfield cd_43_23 (show mt_f 3 15 = some (3, 0) by decide +kernel) h5 h6 h8 ?_
  refine w_getfield cd_43_26 (show mt_f 3 74 = some (1, 3) by decide +kernel) h10 h11 h13 ?_
  refine w_aload_n cd_43_29 rfl ?_
  refine w_getfield cd_43_30 (show mt_f 3 15 = some (3, 0) by decide +kernel) h15 h16 h18 ?_
  refine w_getfield cd_43_33 (show mt_f 3 170 = some (1, 4) by decide +kernel) h20 h21 h23 ?_
  refine w_iconst (v := (-1)) cd_43_36 (by decide) ?_
  exact w_invokevirtual cd_43_37 (show mt_m 3 173 = some (44, 0) by decide +kernel) (rest := []) rfl (as := [.ref l2, .int x12, .int x22, .int (-1)]) rfl h25 (Or.inl h26) ⟨Nat.le_of_ble_eq_true rfl, Nat.le_of_ble_eq_true rfl, Nat.le_of_ble_eq_true rfl⟩ h27
theorem b_43_40 {d : Nat} {Q : (Option Value ⊕ Nat) → mi_H → Prop} (n sl : Nat) (f : Nat → mi_C) {l1 : Nat} {l2 : Nat} {o3 : Option Value} {s4 : Int32} (h5 : ¬ s4 = ((-1)) → mi_W d 43 74 [some (.ref l1), some (.ref l2), some (.int s4)] [] (n, sl, f) Q) (h6 : ¬ (¬ s4 = ((-1))) → mi_W d 43 46 [some (.ref l1), some (.ref l2), some (.int s4)] [] (n, sl, f) Q) : mi_W d 43 40 [some (.ref l1), some (.ref l2), o3] [.int s4] (n, sl, f) Q := by
  refine w_istore_n (ls' := [some (.ref l1), some (.ref l2), some (.int s4)]) cd_43_40 (Nat.le_of_ble_eq_true rfl) rfl ?_
  refine w_iload_n cd_43_41 rfl ?_
  refine w_iconst (v := (-1)) cd_43_42 (by decide) ?_
  exact w_if_icmpne cd_43_43 (by decide) h5 h6
theorem b_43_46 {d : Nat} {Q : (Option Value ⊕ Nat) → mi_H → Prop} (n sl : Nat) (f : Nat → mi_C) {l1 : Nat} {l2 : Nat} {l3 : Int32} {fs4 : List Value} (h5 : f l2 = .inr (4, fs4)) (h6 : l2 < n) (h7 : mi_W d 46 0 (mi_en 1 [.ref l2]) [] (n, sl, f) (mi_Kc d 43 48 [some (.ref l1), some (.ref l2), some (.int l3)] [.ref l1] Q)) : mi_W (d + 1) 43 46 [some (.ref l1), some (.ref l2), some (.int l3)] [] (n, sl, f) Q := by
  refine w_aload_n cd_43_46 rfl ?_
  refine w_aload_n cd_43_47 rfl ?_
  exact w_invokevirtual cd_43_48 (show mt_m 3 176 = some (46, 0) by decide +kernel) (rest := [.ref l1]) rfl (as := [.ref l2]) rfl h5 (Or.inl h6) ⟨Nat.le_of_ble_eq_true rfl, Nat.le_of_ble_eq_true rfl, Nat.le_of_ble_eq_true rfl⟩ h7
theorem b_43_51 {d : Nat} {Q : (Option Value ⊕ Nat) → mi_H → Prop} (n sl : Nat) (f : Nat → mi_C) {l1 : Nat} {l2 : Nat} {l3 : Int32} {s4 : Int32} {s5 : Nat} {fs6 : List Value} (h7 : f s5 = .inr (3, fs6)) (h8 : s5 < n) (h9 : mi_W d 38 0 (mi_en 2 [.ref s5, .int s4]) [] (n, sl, f) (mi_Kc d 43 51 [some (.ref l1), some (.ref l2), some (.int l3)] [] Q)) : mi_W (d + 1) 43 51 [some (.ref l1), some (.ref l2), some (.int l3)] [.int s4, .ref s5] (n, sl, f) Q := by
  exact w_invokevirtual cd_43_51 (show mt_m 3 70 = some (38, 0) by decide +kernel) (rest := []) rfl (as := [.ref s5, .int s4]) rfl h7 (Or.inl h8) ⟨Nat.le_of_ble_eq_true rfl, Nat.le_of_ble_eq_true rfl, Nat.le_of_ble_eq_true rfl⟩ h9
theorem b_43_54 {d : Nat} {Q : (Option Value ⊕ Nat) → mi_H → Prop} (n sl : Nat) (f : Nat → mi_C) {l1 : Nat} {l2 : Nat} {l3 : Int32} {fs4 : List Value} {x7 : Nat} {fs9 : List Value} {x12 : Int32} {fs14 : List Value} {x17 : Nat} {fs19 : List Value} {x22 : Int32} {fs24 : List Value} (h5 : f l1 = .inr (3, fs4)) (h6 : l1 < n) (h8 : fs4[0]? = some (.ref x7)) (h10 : f x7 = .inr (1, fs9)) (h11 : x7 < n) (h13 : fs9[3]? = some (.int x12)) (h15 : f l1 = .inr (3, fs14)) (h16 : l1 < n) (h18 : fs14[0]? = some (.ref x17)) (h20 : f x17 = .inr (1, fs19)) (h21 : x17 < n) (h23 : fs19[4]? = some (.int x22)) (h25 : f l2 = .inr (4, fs24)) (h26 : l2 < n) (h27 : mi_W d 47 0 (mi_en 4 [.ref l2, .int x12, .int x22, .int (-1)]) [] (n, sl, f) (mi_Kc d 43 70 [some (.ref l1), some (.ref l2), some (.int l3)] [] Q)) : mi_W (d + 1) 43 54 [some (.ref l1), some (.ref l2), some (.int l3)] [] (n, sl, f) Q := by
  refine w_aload_n cd_43_54 rfl ?_
  refine w_aload_n cd_43_55 rfl ?_
  refine w_getfield cd_43_56 (show mt_f 3 15 = some (3, 0) by decide +kernel) h5 h6 h8 ?_
  refine w_getfield cd_43_59 (show mt_f 3 74 = some (1, 3) by decide +kernel) h10 h11 h13 ?_
  refine w_aload_n cd_43_62 rfl ?_
  refine w_getfield cd_43_63 (show mt_f 3 15 = some (3, 0) by decide +kernel) h15 h16 h18 ?_
  refine w_getfield cd_43_66 (show mt_f 3 170 = some (1, 4) by decide +kernel) h20 h21 h23 ?_
  refine w_iconst (v := (-1)) cd_43_69 (by decide) ?_
  exact w_invokevirtual cd_43_70 (show mt_m 3 180 = some (47, 0) by decide +kernel) (rest := []) rfl (as := [.ref l2, .int x12, .int x22, .int (-1)]) rfl h25 (Or.inl h26) ⟨Nat.le_of_ble_eq_true rfl, Nat.le_of_ble_eq_true rfl, Nat.le_of_ble_eq_true rfl⟩ h27
theorem b_43_73 {d : Nat} {Q : (Option Value ⊕ Nat) → mi_H → Prop} (n sl : Nat) (f : Nat → mi_C) {l1 : Nat} {l2 : Nat} {l3 : Int32} {s4 : Int32} (h5 : mi_W d 43 74 [some (.ref l1), some (.ref l2), some (.int s4)] [] (n, sl, f) Q) : mi_W d 43 73 [some (.ref l1), some (.ref l2), some (.int l3)] [.int s4] (n, sl, f) Q := by
  refine w_istore_n (ls' := [some (.ref l1), some (.ref l2), some (.int s4)]) cd_43_73 (Nat.le_of_ble_eq_true rfl) rfl ?_
  exact h5
theorem b_43_74 {d : Nat} {Q : (Option Value ⊕ Nat) → mi_H → Prop} (n sl : Nat) (f : Nat → mi_C) {l1 : Nat} {l2 : Nat} {l3 : Int32} {fs4 : List Value} {x7 : Nat} {fs9 : List Value} (h5 : f l1 = .inr (3, fs4)) (h6 : l1 < n) (h8 : fs4[0]? = some (.ref x7)) (h10 : f x7 = .inr (1, fs9)) (h11 : x7 < n) (h12 : mi_W d 24 0 (mi_en 2 [.ref x7]) [] (n, sl, f) (mi_Kc d 43 78 [some (.ref l1), some (.ref l2), some (.int l3)] [] Q)) : mi_W (d + 1) 43 74 [some (.ref l1), some (.ref l2), some (.int l3)] [] (n, sl, f) Q := by
  refine w_aload_n cd_43_74 rfl ?_
  refine w_getfield cd_43_75 (show mt_f 3 15 = some (3, 0) by decide +kernel) h5 h6 h8 ?_
  exact w_invokevirtual cd_43_78 (show mt_m 3 84 = some (24, 0) by decide +kernel) (rest := []) rfl (as := [.ref x7]) rfl h10 (Or.inl h11) ⟨Nat.le_of_ble_eq_true rfl, Nat.le_of_ble_eq_true rfl, Nat.le_of_ble_eq_true rfl⟩ h12
theorem b_43_81 {d : Nat} {Q : (Option Value ⊕ Nat) → mi_H → Prop} (n sl : Nat) (f : Nat → mi_C) {l1 : Nat} {l2 : Nat} {l3 : Int32} (h4 : Q (.inl (some (.int l3))) (n, sl, f)) : mi_W d 43 81 [some (.ref l1), some (.ref l2), some (.int l3)] [] (n, sl, f) Q := by
  refine w_iload_n cd_43_81 rfl ?_
  exact w_ireturn_i cd_43_82 (by decide +kernel) h4
/-! MarloweHost$Names.find(III)I -/
set_option maxRecDepth 100000 in
theorem mq_44 : mt_q 44 = my_44 := rfl
set_option maxRecDepth 100000 in
theorem ci_44 : mt_inc 0 my_44.cd = true := by decide +kernel
theorem cd_44_0 : mt_cd 44 0 = some (.iconst 0) := mt_cd_of (q := (0, .iconst 0, 1)) mq_44 ci_44 (List.mem_of_getElem? (i := 0) rfl)
theorem cd_44_1 : mt_cd 44 1 = some (.istore 4) := mt_cd_of (q := (1, .istore 4, 2)) mq_44 ci_44 (List.mem_of_getElem? (i := 1) rfl)
theorem cd_44_3 : mt_cd 44 3 = some (.iload 4) := mt_cd_of (q := (3, .iload 4, 2)) mq_44 ci_44 (List.mem_of_getElem? (i := 2) rfl)
theorem cd_44_5 : mt_cd 44 5 = some (.aload_n 0) := mt_cd_of (q := (5, .aload_n 0, 1)) mq_44 ci_44 (List.mem_of_getElem? (i := 3) rfl)
theorem cd_44_6 : mt_cd 44 6 = some (.getfield 25) := mt_cd_of (q := (6, .getfield 25, 3)) mq_44 ci_44 (List.mem_of_getElem? (i := 4) rfl)
theorem cd_44_9 : mt_cd 44 9 = some (.if_icmp .ge 50) := mt_cd_of (q := (9, .if_icmp .ge 50, 3)) mq_44 ci_44 (List.mem_of_getElem? (i := 5) rfl)
theorem cd_44_12 : mt_cd 44 12 = some (.aload_n 0) := mt_cd_of (q := (12, .aload_n 0, 1)) mq_44 ci_44 (List.mem_of_getElem? (i := 6) rfl)
theorem cd_44_13 : mt_cd 44 13 = some (.getfield 22) := mt_cd_of (q := (13, .getfield 22, 3)) mq_44 ci_44 (List.mem_of_getElem? (i := 7) rfl)
theorem cd_44_16 : mt_cd 44 16 = some (.iload 4) := mt_cd_of (q := (16, .iload 4, 2)) mq_44 ci_44 (List.mem_of_getElem? (i := 8) rfl)
theorem cd_44_18 : mt_cd 44 18 = some (.iaload) := mt_cd_of (q := (18, .iaload, 1)) mq_44 ci_44 (List.mem_of_getElem? (i := 9) rfl)
theorem cd_44_19 : mt_cd 44 19 = some (.iload_n 3) := mt_cd_of (q := (19, .iload_n 3, 1)) mq_44 ci_44 (List.mem_of_getElem? (i := 10) rfl)
theorem cd_44_20 : mt_cd 44 20 = some (.if_icmp .ne 33) := mt_cd_of (q := (20, .if_icmp .ne 33, 3)) mq_44 ci_44 (List.mem_of_getElem? (i := 11) rfl)
theorem cd_44_23 : mt_cd 44 23 = some (.aload_n 0) := mt_cd_of (q := (23, .aload_n 0, 1)) mq_44 ci_44 (List.mem_of_getElem? (i := 12) rfl)
theorem cd_44_24 : mt_cd 44 24 = some (.getfield 19) := mt_cd_of (q := (24, .getfield 19, 3)) mq_44 ci_44 (List.mem_of_getElem? (i := 13) rfl)
theorem cd_44_27 : mt_cd 44 27 = some (.iload 4) := mt_cd_of (q := (27, .iload 4, 2)) mq_44 ci_44 (List.mem_of_getElem? (i := 14) rfl)
theorem cd_44_29 : mt_cd 44 29 = some (.iaload) := mt_cd_of (q := (29, .iaload, 1)) mq_44 ci_44 (List.mem_of_getElem? (i := 15) rfl)
theorem cd_44_30 : mt_cd 44 30 = some (.iload_n 2) := mt_cd_of (q := (30, .iload_n 2, 1)) mq_44 ci_44 (List.mem_of_getElem? (i := 16) rfl)
theorem cd_44_31 : mt_cd 44 31 = some (.if_icmp .ne 22) := mt_cd_of (q := (31, .if_icmp .ne 22, 3)) mq_44 ci_44 (List.mem_of_getElem? (i := 17) rfl)
theorem cd_44_34 : mt_cd 44 34 = some (.aload_n 0) := mt_cd_of (q := (34, .aload_n 0, 1)) mq_44 ci_44 (List.mem_of_getElem? (i := 18) rfl)
theorem cd_44_35 : mt_cd 44 35 = some (.aload_n 0) := mt_cd_of (q := (35, .aload_n 0, 1)) mq_44 ci_44 (List.mem_of_getElem? (i := 19) rfl)
theorem cd_44_36 : mt_cd 44 36 = some (.getfield 15) := mt_cd_of (q := (36, .getfield 15, 3)) mq_44 ci_44 (List.mem_of_getElem? (i := 20) rfl)
theorem cd_44_39 : mt_cd 44 39 = some (.iload 4) := mt_cd_of (q := (39, .iload 4, 2)) mq_44 ci_44 (List.mem_of_getElem? (i := 21) rfl)
theorem cd_44_41 : mt_cd 44 41 = some (.iaload) := mt_cd_of (q := (41, .iaload, 1)) mq_44 ci_44 (List.mem_of_getElem? (i := 22) rfl)
theorem cd_44_42 : mt_cd 44 42 = some (.iload_n 1) := mt_cd_of (q := (42, .iload_n 1, 1)) mq_44 ci_44 (List.mem_of_getElem? (i := 23) rfl)
theorem cd_44_43 : mt_cd 44 43 = some (.iload_n 2) := mt_cd_of (q := (43, .iload_n 2, 1)) mq_44 ci_44 (List.mem_of_getElem? (i := 24) rfl)
theorem cd_44_44 : mt_cd 44 44 = some (.invokevirtual 29) := mt_cd_of (q := (44, .invokevirtual 29, 3)) mq_44 ci_44 (List.mem_of_getElem? (i := 25) rfl)
theorem cd_44_47 : mt_cd 44 47 = some (.ifCond .eq 6) := mt_cd_of (q := (47, .ifCond .eq 6, 3)) mq_44 ci_44 (List.mem_of_getElem? (i := 26) rfl)
theorem cd_44_50 : mt_cd 44 50 = some (.iload 4) := mt_cd_of (q := (50, .iload 4, 2)) mq_44 ci_44 (List.mem_of_getElem? (i := 27) rfl)
theorem cd_44_52 : mt_cd 44 52 = some (.ireturn) := mt_cd_of (q := (52, .ireturn, 1)) mq_44 ci_44 (List.mem_of_getElem? (i := 28) rfl)
theorem cd_44_53 : mt_cd 44 53 = some (.iinc 4 1) := mt_cd_of (q := (53, .iinc 4 1, 3)) mq_44 ci_44 (List.mem_of_getElem? (i := 29) rfl)
theorem cd_44_56 : mt_cd 44 56 = some (.goto (-53)) := mt_cd_of (q := (56, .goto (-53), 3)) mq_44 ci_44 (List.mem_of_getElem? (i := 30) rfl)
theorem cd_44_59 : mt_cd 44 59 = some (.iconst (-1)) := mt_cd_of (q := (59, .iconst (-1), 1)) mq_44 ci_44 (List.mem_of_getElem? (i := 31) rfl)
theorem cd_44_60 : mt_cd 44 60 = some (.ireturn) := mt_cd_of (q := (60, .ireturn, 1)) mq_44 ci_44 (List.mem_of_getElem? (i := 32) rfl)
theorem b_44_0 {d : Nat} {Q : (Option Value ⊕ Nat) → mi_H → Prop} (n sl : Nat) (f : Nat → mi_C) {l1 : Nat} {l2 : Int32} {l3 : Int32} {l4 : Int32} {o5 : Option Value} (h6 : mi_W d 44 3 [some (.ref l1), some (.int l2), some (.int l3), some (.int l4), some (.int 0)] [] (n, sl, f) Q) : mi_W d 44 0 [some (.ref l1), some (.int l2), some (.int l3), some (.int l4), o5] [] (n, sl, f) Q := by
  refine w_iconst (v := 0) cd_44_0 (by decide) ?_
  refine w_istore (ls' := [some (.ref l1), some (.int l2), some (.int l3), some (.int l4), some (.int 0)]) cd_44_1 (Nat.le_of_ble_eq_true rfl) rfl ?_
  exact h6
theorem b_44_3 {d : Nat} {Q : (Option Value ⊕ Nat) → mi_H → Prop} (n sl : Nat) (f : Nat → mi_C) {l1 : Nat} {l2 : Int32} {l3 : Int32} {l4 : Int32} {l5 : Int32} {fs6 : List Value} {x9 : Int32} (h7 : f l1 = .inr (4, fs6)) (h8 : l1 < n) (h10 : fs6[4]? = some (.int x9)) (h11 : x9 ≤ l5 → mi_W d 44 59 [some (.ref l1), some (.int l2), some (.int l3), some (.int l4), some (.int l5)] [] (n, sl, f) Q) (h12 : ¬ (x9 ≤ l5) → mi_W d 44 12 [some (.ref l1), some (.int l2), some (.int l3), some (.int l4), some (.int l5)] [] (n, sl, f) Q) : mi_W d 44 3 [some (.ref l1), some (.int l2), some (.int l3), some (.int l4), some (.int l5)] [] (n, sl, f) Q := by
  refine w_iload cd_44_3 rfl ?_
  refine w_aload_n cd_44_5 rfl ?_
  refine w_getfield cd_44_6 (show mt_f 4 25 = some (4, 4) by decide +kernel) h7 h8 h10 ?_
  exact w_if_icmpge cd_44_9 (by decide) h11 h12
theorem b_44_12 {d : Nat} {Q : (Option Value ⊕ Nat) → mi_H → Prop} (n sl : Nat) (f : Nat → mi_C) {l1 : Nat} {l2 : Int32} {l3 : Int32} {l4 : Int32} {l5 : Int32} {fs6 : List Value} {x9 : Nat} (m11 i11 : Nat) (g11 : Nat → Int32) (h7 : f l1 = .inr (4, fs6)) (h8 : l1 < n) (h10 : fs6[3]? = some (.ref x9)) (h12 : f x9 = .inl (0, m11, .inl g11)) (h13 : x9 < n ∨ x9 = mi_SC) (h14 : mi_ix l5 m11 i11) (h15 : ¬ (g11 i11) = l4 → mi_W d 44 53 [some (.ref l1), some (.int l2), some (.int l3), some (.int l4), some (.int l5)] [] (n, sl, f) Q) (h16 : ¬ (¬ (g11 i11) = l4) → mi_W d 44 23 [some (.ref l1), some (.int l2), some (.int l3), some (.int l4), some (.int l5)] [] (n, sl, f) Q) : mi_W d 44 12 [some (.ref l1), some (.int l2), some (.int l3), some (.int l4), some (.int l5)] [] (n, sl, f) Q := by
  refine w_aload_n cd_44_12 rfl ?_
  refine w_getfield cd_44_13 (show mt_f 4 22 = some (4, 3) by decide +kernel) h7 h8 h10 ?_
  refine w_iload cd_44_16 rfl ?_
  refine w_iaload cd_44_18 h12 h13 h14 ?_
  refine w_iload_n cd_44_19 rfl ?_
  exact w_if_icmpne cd_44_20 (by decide) h15 h16
theorem b_44_23 {d : Nat} {Q : (Option Value ⊕ Nat) → mi_H → Prop} (n sl : Nat) (f : Nat → mi_C) {l1 : Nat} {l2 : Int32} {l3 : Int32} {l4 : Int32} {l5 : Int32} {fs6 : List Value} {x9 : Nat} (m11 i11 : Nat) (g11 : Nat → Int32) (h7 : f l1 = .inr (4, fs6)) (h8 : l1 < n) (h10 : fs6[2]? = some (.ref x9)) (h12 : f x9 = .inl (0, m11, .inl g11)) (h13 : x9 < n ∨ x9 = mi_SC) (h14 : mi_ix l5 m11 i11) (h15 : ¬ (g11 i11) = l3 → mi_W d 44 53 [some (.ref l1), some (.int l2), some (.int l3), some (.int l4), some (.int l5)] [] (n, sl, f) Q) (h16 : ¬ (¬ (g11 i11) = l3) → mi_W d 44 34 [some (.ref l1), some (.int l2), some (.int l3), some (.int l4), some (.int l5)] [] (n, sl, f) Q) : mi_W d 44 23 [some (.ref l1), some (.int l2), some (.int l3), some (.int l4), some (.int l5)] [] (n, sl, f) Q := by
  refine w_aload_n cd_44_23 rfl ?_
  refine w_getfield cd_44_24 (show mt_f 4 19 = some (4, 2) by decide +kernel) h7 h8 h10 ?_
  refine w_iload cd_44_27 rfl ?_
  refine w_iaload cd_44_29 h12 h13 h14 ?_
  refine w_iload_n cd_44_30 rfl ?_
  exact w_if_icmpne cd_44_31 (by decide) h15 h16
theorem b_44_34 {d : Nat} {Q : (Option Value ⊕ Nat) → mi_H → Prop} (n sl : Nat) (f : Nat → mi_C) {l1 : Nat} {l2 : Int32} {l3 : Int32} {l4 : Int32} {l5 : Int32} {fs6 : List Value} {x9 : Nat} (m11 i11 : Nat) (g11 : Nat → Int32) {fs15 : List Value} (h7 : f l1 = .inr (4, fs6)) (h8 : l1 < n) (h10 : fs6[1]? = some (.ref x9)) (h12 : f x9 = .inl (0, m11, .inl g11)) (h13 : x9 < n ∨ x9 = mi_SC) (h14 : mi_ix l5 m11 i11) (h16 : f l1 = .inr (4, fs15)) (h17 : l1 < n) (h18 : mi_W d 45 0 (mi_en 5 [.ref l1, .int (g11 i11), .int l2, .int l3]) [] (n, sl, f) (mi_Kc d 44 44 [some (.ref l1), some (.int l2), some (.int l3), some (.int l4), some (.int l5)] [] Q)) : mi_W (d + 1) 44 34 [some (.ref l1), some (.int l2), some (.int l3), some (.int l4), some (.int l5)] [] (n, sl, f) Q := by
  refine w_aload_n cd_44_34 rfl ?_
  refine w_aload_n cd_44_35 rfl ?_
  refine w_getfield cd_44_36 (show mt_f 4 15 = some (4, 1) by decide +kernel) h7 h8 h10 ?_
  refine w_iload cd_44_39 rfl ?_
  refine w_iaload cd_44_41 h12 h13 h14 ?_
  refine w_iload_n cd_44_42 rfl ?_
  refine w_iload_n cd_44_43 rfl ?_
  exact w_invokevirtual cd_44_44 (show mt_m 4 29 = some (45, 0) by decide +kernel) (rest := []) rfl (as := [.ref l1, .int (g11 i11), .int l2, .int l3]) rfl h16 (Or.inl h17) ⟨Nat.le_of_ble_eq_true rfl, Nat.le_of_ble_eq_true rfl, Nat.le_of_ble_eq_true rfl⟩ h18
theorem b_44_47 {d : Nat} {Q : (Option Value ⊕ Nat) → mi_H → Prop} (n sl : Nat) (f : Nat → mi_C) {l1 : Nat} {l2 : Int32} {l3 : Int32} {l4 : Int32} {l5 : Int32} {s6 : Int32} (h7 : s6 = (0 : Int32) → mi_W d 44 53 [some (.ref l1), some (.int l2), some (.int l3), some (.int l4), some (.int l5)] [] (n, sl, f) Q) (h8 : ¬ (s6 = (0 : Int32)) → mi_W d 44 50 [some (.ref l1), some (.int l2), some (.int l3), some (.int l4), some (.int l5)] [] (n, sl, f) Q) : mi_W d 44 47 [some (.ref l1), some (.int l2), some (.int l3), some (.int l4), some (.int l5)] [.int s6] (n, sl, f) Q := by
  exact w_ifeq cd_44_47 (by decide) h7 h8
theorem b_44_50 {d : Nat} {Q : (Option Value ⊕ Nat) → mi_H → Prop} (n sl : Nat) (f : Nat → mi_C) {l1 : Nat} {l2 : Int32} {l3 : Int32} {l4 : Int32} {l5 : Int32} (h6 : Q (.inl (some (.int l5))) (n, sl, f)) : mi_W d 44 50 [some (.ref l1), some (.int l2), some (.int l3), some (.int l4), some (.int l5)] [] (n, sl, f) Q := by
  refine w_iload cd_44_50 rfl ?_
  exact w_ireturn_i cd_44_52 (by decide +kernel) h6
theorem b_44_53 {d : Nat} {Q : (Option Value ⊕ Nat) → mi_H → Prop} (n sl : Nat) (f : Nat → mi_C) {l1 : Nat} {l2 : Int32} {l3 : Int32} {l4 : Int32} {l5 : Int32} (h6 : mi_W d 44 3 [some (.ref l1), some (.int l2), some (.int l3), some (.int l4), some (.int (l5 + 1))] [] (n, sl, f) Q) : mi_W d 44 53 [some (.ref l1), some (.int l2), some (.int l3), some (.int l4), some (.int l5)] [] (n, sl, f) Q := by
  refine w_iinc (v := 1) (ls' := [some (.ref l1), some (.int l2), some (.int l3), some (.int l4), some (.int (l5 + 1))]) cd_44_53 rfl (by decide) rfl ?_
  exact w_goto cd_44_56 (by decide) h6
theorem b_44_59 {d : Nat} {Q : (Option Value ⊕ Nat) → mi_H → Prop} (n sl : Nat) (f : Nat → mi_C) {l1 : Nat} {l2 : Int32} {l3 : Int32} {l4 : Int32} {l5 : Int32} (h6 : Q (.inl (some (.int (-1)))) (n, sl, f)) : mi_W d 44 59 [some (.ref l1), some (.int l2), some (.int l3), some (.int l4), some (.int l5)] [] (n, sl, f) Q := by
  refine w_iconst (v := (-1)) cd_44_59 (by decide) ?_
  exact w_ireturn_i cd_44_60 (by decide +kernel) h6
/-! MarloweHost$Names.isSame(III)Z -/
set_option maxRecDepth 100000 in
theorem mq_45 : mt_q 45 = my_45 := rfl
set_option maxRecDepth 100000 in
theorem ci_45 : mt_inc 0 my_45.cd = true := by decide +kernel
theorem cd_45_0 : mt_cd 45 0 = some (.iconst 0) := mt_cd_of (q := (0, .iconst 0, 1)) mq_45 ci_45 (List.mem_of_getElem? (i := 0) rfl)
theorem cd_45_1 : mt_cd 45 1 = some (.istore 4) := mt_cd_of (q := (1, .istore 4, 2)) mq_45 ci_45 (List.mem_of_getElem? (i := 1) rfl)
theorem cd_45_3 : mt_cd 45 3 = some (.iload 4) := mt_cd_of (q := (3, .iload 4, 2)) mq_45 ci_45 (List.mem_of_getElem? (i := 2) rfl)
theorem cd_45_5 : mt_cd 45 5 = some (.iload_n 3) := mt_cd_of (q := (5, .iload_n 3, 1)) mq_45 ci_45 (List.mem_of_getElem? (i := 3) rfl)
theorem cd_45_6 : mt_cd 45 6 = some (.if_icmp .ge 56) := mt_cd_of (q := (6, .if_icmp .ge 56, 3)) mq_45 ci_45 (List.mem_of_getElem? (i := 4) rfl)
theorem cd_45_9 : mt_cd 45 9 = some (.iload_n 1) := mt_cd_of (q := (9, .iload_n 1, 1)) mq_45 ci_45 (List.mem_of_getElem? (i := 5) rfl)
theorem cd_45_10 : mt_cd 45 10 = some (.iload 4) := mt_cd_of (q := (10, .iload 4, 2)) mq_45 ci_45 (List.mem_of_getElem? (i := 6) rfl)
theorem cd_45_12 : mt_cd 45 12 = some (.iadd) := mt_cd_of (q := (12, .iadd, 1)) mq_45 ci_45 (List.mem_of_getElem? (i := 7) rfl)
theorem cd_45_13 : mt_cd 45 13 = some (.aload_n 0) := mt_cd_of (q := (13, .aload_n 0, 1)) mq_45 ci_45 (List.mem_of_getElem? (i := 8) rfl)
theorem cd_45_14 : mt_cd 45 14 = some (.getfield 9) := mt_cd_of (q := (14, .getfield 9, 3)) mq_45 ci_45 (List.mem_of_getElem? (i := 9) rfl)
theorem cd_45_17 : mt_cd 45 17 = some (.arraylength) := mt_cd_of (q := (17, .arraylength, 1)) mq_45 ci_45 (List.mem_of_getElem? (i := 10) rfl)
theorem cd_45_18 : mt_cd 45 18 = some (.if_icmp .ge 44) := mt_cd_of (q := (18, .if_icmp .ge 44, 3)) mq_45 ci_45 (List.mem_of_getElem? (i := 11) rfl)
theorem cd_45_21 : mt_cd 45 21 = some (.iload_n 2) := mt_cd_of (q := (21, .iload_n 2, 1)) mq_45 ci_45 (List.mem_of_getElem? (i := 12) rfl)
theorem cd_45_22 : mt_cd 45 22 = some (.iload 4) := mt_cd_of (q := (22, .iload 4, 2)) mq_45 ci_45 (List.mem_of_getElem? (i := 13) rfl)
theorem cd_45_24 : mt_cd 45 24 = some (.iadd) := mt_cd_of (q := (24, .iadd, 1)) mq_45 ci_45 (List.mem_of_getElem? (i := 14) rfl)
theorem cd_45_25 : mt_cd 45 25 = some (.aload_n 0) := mt_cd_of (q := (25, .aload_n 0, 1)) mq_45 ci_45 (List.mem_of_getElem? (i := 15) rfl)
theorem cd_45_26 : mt_cd 45 26 = some (.getfield 9) := mt_cd_of (q := (26, .getfield 9, 3)) mq_45 ci_45 (List.mem_of_getElem? (i := 16) rfl)
theorem cd_45_29 : mt_cd 45 29 = some (.arraylength) := mt_cd_of (q := (29, .arraylength, 1)) mq_45 ci_45 (List.mem_of_getElem? (i := 17) rfl)
theorem cd_45_30 : mt_cd 45 30 = some (.if_icmp .ge 32) := mt_cd_of (q := (30, .if_icmp .ge 32, 3)) mq_45 ci_45 (List.mem_of_getElem? (i := 18) rfl)
theorem cd_45_33 : mt_cd 45 33 = some (.aload_n 0) := mt_cd_of (q := (33, .aload_n 0, 1)) mq_45 ci_45 (List.mem_of_getElem? (i := 19) rfl)
theorem cd_45_34 : mt_cd 45 34 = some (.getfield 9) := mt_cd_of (q := (34, .getfield 9, 3)) mq_45 ci_45 (List.mem_of_getElem? (i := 20) rfl)
theorem cd_45_37 : mt_cd 45 37 = some (.iload_n 1) := mt_cd_of (q := (37, .iload_n 1, 1)) mq_45 ci_45 (List.mem_of_getElem? (i := 21) rfl)
theorem cd_45_38 : mt_cd 45 38 = some (.iload 4) := mt_cd_of (q := (38, .iload 4, 2)) mq_45 ci_45 (List.mem_of_getElem? (i := 22) rfl)
theorem cd_45_40 : mt_cd 45 40 = some (.iadd) := mt_cd_of (q := (40, .iadd, 1)) mq_45 ci_45 (List.mem_of_getElem? (i := 23) rfl)
theorem cd_45_41 : mt_cd 45 41 = some (.baload) := mt_cd_of (q := (41, .baload, 1)) mq_45 ci_45 (List.mem_of_getElem? (i := 24) rfl)
theorem cd_45_42 : mt_cd 45 42 = some (.aload_n 0) := mt_cd_of (q := (42, .aload_n 0, 1)) mq_45 ci_45 (List.mem_of_getElem? (i := 25) rfl)
theorem cd_45_43 : mt_cd 45 43 = some (.getfield 9) := mt_cd_of (q := (43, .getfield 9, 3)) mq_45 ci_45 (List.mem_of_getElem? (i := 26) rfl)
theorem cd_45_46 : mt_cd 45 46 = some (.iload_n 2) := mt_cd_of (q := (46, .iload_n 2, 1)) mq_45 ci_45 (List.mem_of_getElem? (i := 27) rfl)
theorem cd_45_47 : mt_cd 45 47 = some (.iload 4) := mt_cd_of (q := (47, .iload 4, 2)) mq_45 ci_45 (List.mem_of_getElem? (i := 28) rfl)
theorem cd_45_49 : mt_cd 45 49 = some (.iadd) := mt_cd_of (q := (49, .iadd, 1)) mq_45 ci_45 (List.mem_of_getElem? (i := 29) rfl)
theorem cd_45_50 : mt_cd 45 50 = some (.baload) := mt_cd_of (q := (50, .baload, 1)) mq_45 ci_45 (List.mem_of_getElem? (i := 30) rfl)
theorem cd_45_51 : mt_cd 45 51 = some (.if_icmp .eq 5) := mt_cd_of (q := (51, .if_icmp .eq 5, 3)) mq_45 ci_45 (List.mem_of_getElem? (i := 31) rfl)
theorem cd_45_54 : mt_cd 45 54 = some (.iconst 0) := mt_cd_of (q := (54, .iconst 0, 1)) mq_45 ci_45 (List.mem_of_getElem? (i := 32) rfl)
theorem cd_45_55 : mt_cd 45 55 = some (.ireturn) := mt_cd_of (q := (55, .ireturn, 1)) mq_45 ci_45 (List.mem_of_getElem? (i := 33) rfl)
theorem cd_45_56 : mt_cd 45 56 = some (.iinc 4 1) := mt_cd_of (q := (56, .iinc 4 1, 3)) mq_45 ci_45 (List.mem_of_getElem? (i := 34) rfl)
theorem cd_45_59 : mt_cd 45 59 = some (.goto (-56)) := mt_cd_of (q := (59, .goto (-56), 3)) mq_45 ci_45 (List.mem_of_getElem? (i := 35) rfl)
theorem cd_45_62 : mt_cd 45 62 = some (.iconst 1) := mt_cd_of (q := (62, .iconst 1, 1)) mq_45 ci_45 (List.mem_of_getElem? (i := 36) rfl)
theorem cd_45_63 : mt_cd 45 63 = some (.ireturn) := mt_cd_of (q := (63, .ireturn, 1)) mq_45 ci_45 (List.mem_of_getElem? (i := 37) rfl)
theorem b_45_0 {d : Nat} {Q : (Option Value ⊕ Nat) → mi_H → Prop} (n sl : Nat) (f : Nat → mi_C) {l1 : Nat} {l2 : Int32} {l3 : Int32} {l4 : Int32} {o5 : Option Value} (h6 : mi_W d 45 3 [some (.ref l1), some (.int l2), some (.int l3), some (.int l4), some (.int 0)] [] (n, sl, f) Q) : mi_W d 45 0 [some (.ref l1), some (.int l2), some (.int l3), some (.int l4), o5] [] (n, sl, f) Q := by
  refine w_iconst (v := 0) cd_45_0 (by decide) ?_
  refine w_istore (ls' := [some (.ref l1), some (.int l2), some (.int l3), some (.int l4), some (.int 0)]) cd_45_1 (Nat.le_of_ble_eq_true rfl) rfl ?_
  exact h6
theorem b_45_3 {d : Nat} {Q : (Option Value ⊕ Nat) → mi_H → Prop} (n sl : Nat) (f : Nat → mi_C) {l1 : Nat} {l2 : Int32} {l3 : Int32} {l4 : Int32} {l5 : Int32} (h6 : l4 ≤ l5 → mi_W d 45 62 [some (.ref l1), some (.int l2), some (.int l3), some (.int l4), some (.int l5)] [] (n, sl, f) Q) (h7 : ¬ (l4 ≤ l5) → mi_W d 45 9 [some (.ref l1), some (.int l2), some (.int l3), some (.int l4), some (.int l5)] [] (n, sl, f) Q) : mi_W d 45 3 [some (.ref l1), some (.int l2), some (.int l3), some (.int l4), some (.int l5)] [] (n, sl, f) Q := by
  refine w_iload cd_45_3 rfl ?_
  refine w_iload_n cd_45_5 rfl ?_
  exact w_if_icmpge cd_45_6 (by decide) h6 h7
theorem b_45_9 {d : Nat} {Q : (Option Value ⊕ Nat) → mi_H → Prop} (n sl : Nat) (f : Nat → mi_C) {l1 : Nat} {l2 : Int32} {l3 : Int32} {l4 : Int32} {l5 : Int32} {fs6 : List Value} {x9 : Nat} (m11 ka11 : Nat) (g11 : (Nat → Int32) ⊕ (Nat → Int64) ⊕ (Nat → UInt32) ⊕ (Nat → UInt64) ⊕ (Nat → Option Nat)) (h7 : f l1 = .inr (4, fs6)) (h8 : l1 < n) (h10 : fs6[0]? = some (.ref x9)) (h12 : f x9 = .inl (ka11, m11, g11)) (h13 : x9 < n ∧ ka11 < mt_na) (h14 : (Int32.ofNat m11) ≤ (l2 + l5) → mi_W d 45 62 [some (.ref l1), some (.int l2), some (.int l3), some (.int l4), some (.int l5)] [] (n, sl, f) Q) (h15 : ¬ ((Int32.ofNat m11) ≤ (l2 + l5)) → mi_W d 45 21 [some (.ref l1), some (.int l2), some (.int l3), some (.int l4), some (.int l5)] [] (n, sl, f) Q) : mi_W d 45 9 [some (.ref l1), some (.int l2), some (.int l3), some (.int l4), some (.int l5)] [] (n, sl, f) Q := by
  refine w_iload_n cd_45_9 rfl ?_
  refine w_iload cd_45_10 rfl ?_
  refine w_iadd cd_45_12 ?_
  refine w_aload_n cd_45_13 rfl ?_
  refine w_getfield cd_45_14 (show mt_f 4 9 = some (4, 0) by decide +kernel) h7 h8 h10 ?_
  refine w_arraylength cd_45_17 h12 h13 ?_
  exact w_if_icmpge cd_45_18 (by decide) h14 h15
theorem b_45_21 {d : Nat} {Q : (Option Value ⊕ Nat) → mi_H → Prop} (n sl : Nat) (f : Nat → mi_C) {l1 : Nat} {l2 : Int32} {l3 : Int32} {l4 : Int32} {l5 : Int32} {fs6 : List Value} {x9 : Nat} (m11 ka11 : Nat) (g11 : (Nat → Int32) ⊕ (Nat → Int64) ⊕ (Nat → UInt32) ⊕ (Nat → UInt64) ⊕ (Nat → Option Nat)) (h7 : f l1 = .inr (4, fs6)) (h8 : l1 < n) (h10 : fs6[0]? = some (.ref x9)) (h12 : f x9 = .inl (ka11, m11, g11)) (h13 : x9 < n ∧ ka11 < mt_na) (h14 : (Int32.ofNat m11) ≤ (l3 + l5) → mi_W d 45 62 [some (.ref l1), some (.int l2), some (.int l3), some (.int l4), some (.int l5)] [] (n, sl, f) Q) (h15 : ¬ ((Int32.ofNat m11) ≤ (l3 + l5)) → mi_W d 45 33 [some (.ref l1), some (.int l2), some (.int l3), some (.int l4), some (.int l5)] [] (n, sl, f) Q) : mi_W d 45 21 [some (.ref l1), some (.int l2), some (.int l3), some (.int l4), some (.int l5)] [] (n, sl, f) Q := by
  refine w_iload_n cd_45_21 rfl ?_
  refine w_iload cd_45_22 rfl ?_
  refine w_iadd cd_45_24 ?_
  refine w_aload_n cd_45_25 rfl ?_
  refine w_getfield cd_45_26 (show mt_f 4 9 = some (4, 0) by decide +kernel) h7 h8 h10 ?_
  refine w_arraylength cd_45_29 h12 h13 ?_
  exact w_if_icmpge cd_45_30 (by decide) h14 h15
theorem b_45_33 {d : Nat} {Q : (Option Value ⊕ Nat) → mi_H → Prop} (n sl : Nat) (f : Nat → mi_C) {l1 : Nat} {l2 : Int32} {l3 : Int32} {l4 : Int32} {l5 : Int32} {fs6 : List Value} {x9 : Nat} (m11 i11 : Nat) (g11 : Nat → Int32) {fs15 : List Value} {x18 : Nat} (m20 i20 : Nat) (g20 : Nat → Int32) (h7 : f l1 = .inr (4, fs6)) (h8 : l1 < n) (h10 : fs6[0]? = some (.ref x9)) (h12 : f x9 = .inl (1, m11, .inl g11)) (h13 : x9 < n) (h14 : mi_ix (l2 + l5) m11 i11) (h16 : f l1 = .inr (4, fs15)) (h17 : l1 < n) (h19 : fs15[0]? = some (.ref x18)) (h21 : f x18 = .inl (1, m20, .inl g20)) (h22 : x18 < n) (h23 : mi_ix (l3 + l5) m20 i20) (h24 : (g11 i11) = (g20 i20) → mi_W d 45 56 [some (.ref l1), some (.int l2), some (.int l3), some (.int l4), some (.int l5)] [] (n, sl, f) Q) (h25 : ¬ ((g11 i11) = (g20 i20)) → mi_W d 45 54 [some (.ref l1), some (.int l2), some (.int l3), some (.int l4), some (.int l5)] [] (n, sl, f) Q) : mi_W d 45 33 [some (.ref l1), some (.int l2), some (.int l3), some (.int l4), some (.int l5)] [] (n, sl, f) Q := by
  refine w_aload_n cd_45_33 rfl ?_
  refine w_getfield cd_45_34 (show mt_f 4 9 = some (4, 0) by decide +kernel) h7 h8 h10 ?_
  refine w_iload_n cd_45_37 rfl ?_
  refine w_iload cd_45_38 rfl ?_
  refine w_iadd cd_45_40 ?_
  refine w_baload1 cd_45_41 h12 h13 h14 ?_
  refine w_aload_n cd_45_42 rfl ?_
  refine w_getfield cd_45_43 (show mt_f 4 9 = some (4, 0) by decide +kernel) h16 h17 h19 ?_
  refine w_iload_n cd_45_46 rfl ?_
  refine w_iload cd_45_47 rfl ?_
  refine w_iadd cd_45_49 ?_
  refine w_baload1 cd_45_50 h21 h22 h23 ?_
  exact w_if_icmpeq cd_45_51 (by decide) h24 h25
theorem b_45_54 {d : Nat} {Q : (Option Value ⊕ Nat) → mi_H → Prop} (n sl : Nat) (f : Nat → mi_C) {l1 : Nat} {l2 : Int32} {l3 : Int32} {l4 : Int32} {l5 : Int32} (h6 : Q (.inl (some (.int 0))) (n, sl, f)) : mi_W d 45 54 [some (.ref l1), some (.int l2), some (.int l3), some (.int l4), some (.int l5)] [] (n, sl, f) Q := by
  refine w_iconst (v := 0) cd_45_54 (by decide) ?_
  exact w_ireturn_z cd_45_55 (by decide +kernel) (by decide) h6
theorem b_45_56 {d : Nat} {Q : (Option Value ⊕ Nat) → mi_H → Prop} (n sl : Nat) (f : Nat → mi_C) {l1 : Nat} {l2 : Int32} {l3 : Int32} {l4 : Int32} {l5 : Int32} (h6 : mi_W d 45 3 [some (.ref l1), some (.int l2), some (.int l3), some (.int l4), some (.int (l5 + 1))] [] (n, sl, f) Q) : mi_W d 45 56 [some (.ref l1), some (.int l2), some (.int l3), some (.int l4), some (.int l5)] [] (n, sl, f) Q := by
  refine w_iinc (v := 1) (ls' := [some (.ref l1), some (.int l2), some (.int l3), some (.int l4), some (.int (l5 + 1))]) cd_45_56 rfl (by decide) rfl ?_
  exact w_goto cd_45_59 (by decide) h6
theorem b_45_62 {d : Nat} {Q : (Option Value ⊕ Nat) → mi_H → Prop} (n sl : Nat) (f : Nat → mi_C) {l1 : Nat} {l2 : Int32} {l3 : Int32} {l4 : Int32} {l5 : Int32} (h6 : Q (.inl (some (.int 1))) (n, sl, f)) : mi_W d 45 62 [some (.ref l1), some (.int l2), some (.int l3), some (.int l4), some (.int l5)] [] (n, sl, f) Q := by
  refine w_iconst (v := 1) cd_45_62 (by decide) ?_
  exact w_ireturn_z cd_45_63 (by decide +kernel) (by decide) h6
/-! MarloweHost$Names.hasRoom()Z -/
set_option maxRecDepth 100000 in
theorem mq_46 : mt_q 46 = my_46 := rfl
set_option maxRecDepth 100000 in
theorem ci_46 : mt_inc 0 my_46.cd = true := by decide +kernel
theorem cd_46_0 : mt_cd 46 0 = some (.aload_n 0) := mt_cd_of (q := (0, .aload_n 0, 1)) mq_46 ci_46 (List.mem_of_getElem? (i := 0) rfl)
theorem cd_46_1 : mt_cd 46 1 = some (.getfield 25) := mt_cd_of (q := (1, .getfield 25, 3)) mq_46 ci_46 (List.mem_of_getElem? (i := 1) rfl)
theorem cd_46_4 : mt_cd 46 4 = some (.ifCond .lt 19) := mt_cd_of (q := (4, .ifCond .lt 19, 3)) mq_46 ci_46 (List.mem_of_getElem? (i := 2) rfl)
theorem cd_46_7 : mt_cd 46 7 = some (.aload_n 0) := mt_cd_of (q := (7, .aload_n 0, 1)) mq_46 ci_46 (List.mem_of_getElem? (i := 3) rfl)
theorem cd_46_8 : mt_cd 46 8 = some (.getfield 25) := mt_cd_of (q := (8, .getfield 25, 3)) mq_46 ci_46 (List.mem_of_getElem? (i := 4) rfl)
theorem cd_46_11 : mt_cd 46 11 = some (.aload_n 0) := mt_cd_of (q := (11, .aload_n 0, 1)) mq_46 ci_46 (List.mem_of_getElem? (i := 5) rfl)
theorem cd_46_12 : mt_cd 46 12 = some (.getfield 15) := mt_cd_of (q := (12, .getfield 15, 3)) mq_46 ci_46 (List.mem_of_getElem? (i := 6) rfl)
theorem cd_46_15 : mt_cd 46 15 = some (.arraylength) := mt_cd_of (q := (15, .arraylength, 1)) mq_46 ci_46 (List.mem_of_getElem? (i := 7) rfl)
theorem cd_46_16 : mt_cd 46 16 = some (.if_icmp .ge 7) := mt_cd_of (q := (16, .if_icmp .ge 7, 3)) mq_46 ci_46 (List.mem_of_getElem? (i := 8) rfl)
theorem cd_46_19 : mt_cd 46 19 = some (.iconst 1) := mt_cd_of (q := (19, .iconst 1, 1)) mq_46 ci_46 (List.mem_of_getElem? (i := 9) rfl)
theorem cd_46_20 : mt_cd 46 20 = some (.goto 4) := mt_cd_of (q := (20, .goto 4, 3)) mq_46 ci_46 (List.mem_of_getElem? (i := 10) rfl)
theorem cd_46_23 : mt_cd 46 23 = some (.iconst 0) := mt_cd_of (q := (23, .iconst 0, 1)) mq_46 ci_46 (List.mem_of_getElem? (i := 11) rfl)
theorem cd_46_24 : mt_cd 46 24 = some (.ireturn) := mt_cd_of (q := (24, .ireturn, 1)) mq_46 ci_46 (List.mem_of_getElem? (i := 12) rfl)
theorem b_46_0 {d : Nat} {Q : (Option Value ⊕ Nat) → mi_H → Prop} (n sl : Nat) (f : Nat → mi_C) {l1 : Nat} {fs2 : List Value} {x5 : Int32} (h3 : f l1 = .inr (4, fs2)) (h4 : l1 < n) (h6 : fs2[4]? = some (.int x5)) (h7 : x5 < (0 : Int32) → mi_W d 46 23 [some (.ref l1)] [] (n, sl, f) Q) (h8 : ¬ (x5 < (0 : Int32)) → mi_W d 46 7 [some (.ref l1)] [] (n, sl, f) Q) : mi_W d 46 0 [some (.ref l1)] [] (n, sl, f) Q := by
  refine w_aload_n cd_46_0 rfl ?_
  refine w_getfield cd_46_1 (show mt_f 4 25 = some (4, 4) by decide +kernel) h3 h4 h6 ?_
  exact w_iflt cd_46_4 (by decide) h7 h8
theorem b_46_7 {d : Nat} {Q : (Option Value ⊕ Nat) → mi_H → Prop} (n sl : Nat) (f : Nat → mi_C) {l1 : Nat} {fs2 : List Value} {x5 : Int32} {fs7 : List Value} {x10 : Nat} (m12 ka12 : Nat) (g12 : (Nat → Int32) ⊕ (Nat → Int64) ⊕ (Nat → UInt32) ⊕ (Nat → UInt64) ⊕ (Nat → Option Nat)) (h3 : f l1 = .inr (4, fs2)) (h4 : l1 < n) (h6 : fs2[4]? = some (.int x5)) (h8 : f l1 = .inr (4, fs7)) (h9 : l1 < n) (h11 : fs7[1]? = some (.ref x10)) (h13 : f x10 = .inl (ka12, m12, g12)) (h14 : x10 < n ∧ ka12 < mt_na) (h15 : (Int32.ofNat m12) ≤ x5 → mi_W d 46 23 [some (.ref l1)] [] (n, sl, f) Q) (h16 : ¬ ((Int32.ofNat m12) ≤ x5) → mi_W d 46 19 [some (.ref l1)] [] (n, sl, f) Q) : mi_W d 46 7 [some (.ref l1)] [] (n, sl, f) Q := by
  refine w_aload_n cd_46_7 rfl ?_
  refine w_getfield cd_46_8 (show mt_f 4 25 = some (4, 4) by decide +kernel) h3 h4 h6 ?_
  refine w_aload_n cd_46_11 rfl ?_
  refine w_getfield cd_46_12 (show mt_f 4 15 = some (4, 1) by decide +kernel) h8 h9 h11 ?_
  refine w_arraylength cd_46_15 h13 h14 ?_
  exact w_if_icmpge cd_46_16 (by decide) h15 h16
theorem b_46_19 {d : Nat} {Q : (Option Value ⊕ Nat) → mi_H → Prop} (n sl : Nat) (f : Nat → mi_C) {l1 : Nat} (h2 : mi_W d 46 24 [some (.ref l1)] [.int 1] (n, sl, f) Q) : mi_W d 46 19 [some (.ref l1)] [] (n, sl, f) Q := by
  refine w_iconst (v := 1) cd_46_19 (by decide) ?_
  exact w_goto cd_46_20 (by decide) h2
theorem b_46_23 {d : Nat} {Q : (Option Value ⊕ Nat) → mi_H → Prop} (n sl : Nat) (f : Nat → mi_C) {l1 : Nat} (h2 : mi_W d 46 24 [some (.ref l1)] [.int 0] (n, sl, f) Q) : mi_W d 46 23 [some (.ref l1)] [] (n, sl, f) Q := by
  refine w_iconst (v := 0) cd_46_23 (by decide) ?_
  exact h2
theorem b_46_24 {d : Nat} {Q : (Option Value ⊕ Nat) → mi_H → Prop} (n sl : Nat) (f : Nat → mi_C) {l1 : Nat} {s2 : Int32} (h3 : s2 = 0 ∨ s2 = 1) (h4 : Q (.inl (some (.int s2))) (n, sl, f)) : mi_W d 46 24 [some (.ref l1)] [.int s2] (n, sl, f) Q := by
  exact w_ireturn_z cd_46_24 (by decide +kernel) h3 h4
/-! MarloweHost$Names.add(III)I -/
set_option maxRecDepth 100000 in
theorem mq_47 : mt_q 47 = my_47 := rfl
set_option maxRecDepth 100000 in
theorem ci_47 : mt_inc 0 my_47.cd = true := by decide +kernel
theorem cd_47_0 : mt_cd 47 0 = some (.aload_n 0) := mt_cd_of (q := (0, .aload_n 0, 1)) mq_47 ci_47 (List.mem_of_getElem? (i := 0) rfl)
theorem cd_47_1 : mt_cd 47 1 = some (.invokevirtual 33) := mt_cd_of (q := (1, .invokevirtual 33, 3)) mq_47 ci_47 (List.mem_of_getElem? (i := 1) rfl)
theorem cd_47_4 : mt_cd 47 4 = some (.ifCond .ne 5) := mt_cd_of (q := (4, .ifCond .ne 5, 3)) mq_47 ci_47 (List.mem_of_getElem? (i := 2) rfl)
theorem cd_47_7 : mt_cd 47 7 = some (.iconst (-1)) := mt_cd_of (q := (7, .iconst (-1), 1)) mq_47 ci_47 (List.mem_of_getElem? (i := 3) rfl)
theorem cd_47_8 : mt_cd 47 8 = some (.ireturn) := mt_cd_of (q := (8, .ireturn, 1)) mq_47 ci_47 (List.mem_of_getElem? (i := 4) rfl)
theorem cd_47_9 : mt_cd 47 9 = some (.aload_n 0) := mt_cd_of (q := (9, .aload_n 0, 1)) mq_47 ci_47 (List.mem_of_getElem? (i := 5) rfl)
theorem cd_47_10 : mt_cd 47 10 = some (.getfield 15) := mt_cd_of (q := (10, .getfield 15, 3)) mq_47 ci_47 (List.mem_of_getElem? (i := 6) rfl)
theorem cd_47_13 : mt_cd 47 13 = some (.aload_n 0) := mt_cd_of (q := (13, .aload_n 0, 1)) mq_47 ci_47 (List.mem_of_getElem? (i := 7) rfl)
theorem cd_47_14 : mt_cd 47 14 = some (.getfield 25) := mt_cd_of (q := (14, .getfield 25, 3)) mq_47 ci_47 (List.mem_of_getElem? (i := 8) rfl)
theorem cd_47_17 : mt_cd 47 17 = some (.iload_n 1) := mt_cd_of (q := (17, .iload_n 1, 1)) mq_47 ci_47 (List.mem_of_getElem? (i := 9) rfl)
theorem cd_47_18 : mt_cd 47 18 = some (.iastore) := mt_cd_of (q := (18, .iastore, 1)) mq_47 ci_47 (List.mem_of_getElem? (i := 10) rfl)
theorem cd_47_19 : mt_cd 47 19 = some (.aload_n 0) := mt_cd_of (q := (19, .aload_n 0, 1)) mq_47 ci_47 (List.mem_of_getElem? (i := 11) rfl)
theorem cd_47_20 : mt_cd 47 20 = some (.getfield 19) := mt_cd_of (q := (20, .getfield 19, 3)) mq_47 ci_47 (List.mem_of_getElem? (i := 12) rfl)
theorem cd_47_23 : mt_cd 47 23 = some (.aload_n 0) := mt_cd_of (q := (23, .aload_n 0, 1)) mq_47 ci_47 (List.mem_of_getElem? (i := 13) rfl)
theorem cd_47_24 : mt_cd 47 24 = some (.getfield 25) := mt_cd_of (q := (24, .getfield 25, 3)) mq_47 ci_47 (List.mem_of_getElem? (i := 14) rfl)
theorem cd_47_27 : mt_cd 47 27 = some (.iload_n 2) := mt_cd_of (q := (27, .iload_n 2, 1)) mq_47 ci_47 (List.mem_of_getElem? (i := 15) rfl)
theorem cd_47_28 : mt_cd 47 28 = some (.iastore) := mt_cd_of (q := (28, .iastore, 1)) mq_47 ci_47 (List.mem_of_getElem? (i := 16) rfl)
theorem cd_47_29 : mt_cd 47 29 = some (.aload_n 0) := mt_cd_of (q := (29, .aload_n 0, 1)) mq_47 ci_47 (List.mem_of_getElem? (i := 17) rfl)
theorem cd_47_30 : mt_cd 47 30 = some (.getfield 22) := mt_cd_of (q := (30, .getfield 22, 3)) mq_47 ci_47 (List.mem_of_getElem? (i := 18) rfl)
theorem cd_47_33 : mt_cd 47 33 = some (.aload_n 0) := mt_cd_of (q := (33, .aload_n 0, 1)) mq_47 ci_47 (List.mem_of_getElem? (i := 19) rfl)
theorem cd_47_34 : mt_cd 47 34 = some (.getfield 25) := mt_cd_of (q := (34, .getfield 25, 3)) mq_47 ci_47 (List.mem_of_getElem? (i := 20) rfl)
theorem cd_47_37 : mt_cd 47 37 = some (.iload_n 3) := mt_cd_of (q := (37, .iload_n 3, 1)) mq_47 ci_47 (List.mem_of_getElem? (i := 21) rfl)
theorem cd_47_38 : mt_cd 47 38 = some (.iastore) := mt_cd_of (q := (38, .iastore, 1)) mq_47 ci_47 (List.mem_of_getElem? (i := 22) rfl)
theorem cd_47_39 : mt_cd 47 39 = some (.aload_n 0) := mt_cd_of (q := (39, .aload_n 0, 1)) mq_47 ci_47 (List.mem_of_getElem? (i := 23) rfl)
theorem cd_47_40 : mt_cd 47 40 = some (.dup) := mt_cd_of (q := (40, .dup, 1)) mq_47 ci_47 (List.mem_of_getElem? (i := 24) rfl)
theorem cd_47_41 : mt_cd 47 41 = some (.getfield 25) := mt_cd_of (q := (41, .getfield 25, 3)) mq_47 ci_47 (List.mem_of_getElem? (i := 25) rfl)
theorem cd_47_44 : mt_cd 47 44 = some (.iconst 1) := mt_cd_of (q := (44, .iconst 1, 1)) mq_47 ci_47 (List.mem_of_getElem? (i := 26) rfl)
theorem cd_47_45 : mt_cd 47 45 = some (.iadd) := mt_cd_of (q := (45, .iadd, 1)) mq_47 ci_47 (List.mem_of_getElem? (i := 27) rfl)
theorem cd_47_46 : mt_cd 47 46 = some (.putfield 25) := mt_cd_of (q := (46, .putfield 25, 3)) mq_47 ci_47 (List.mem_of_getElem? (i := 28) rfl)
theorem cd_47_49 : mt_cd 47 49 = some (.aload_n 0) := mt_cd_of (q := (49, .aload_n 0, 1)) mq_47 ci_47 (List.mem_of_getElem? (i := 29) rfl)
theorem cd_47_50 : mt_cd 47 50 = some (.getfield 25) := mt_cd_of (q := (50, .getfield 25, 3)) mq_47 ci_47 (List.mem_of_getElem? (i := 30) rfl)
theorem cd_47_53 : mt_cd 47 53 = some (.iconst 1) := mt_cd_of (q := (53, .iconst 1, 1)) mq_47 ci_47 (List.mem_of_getElem? (i := 31) rfl)
theorem cd_47_54 : mt_cd 47 54 = some (.isub) := mt_cd_of (q := (54, .isub, 1)) mq_47 ci_47 (List.mem_of_getElem? (i := 32) rfl)
theorem cd_47_55 : mt_cd 47 55 = some (.ireturn) := mt_cd_of (q := (55, .ireturn, 1)) mq_47 ci_47 (List.mem_of_getElem? (i := 33) rfl)
theorem b_47_0 {d : Nat} {Q : (Option Value ⊕ Nat) → mi_H → Prop} (n sl : Nat) (f : Nat → mi_C) {l1 : Nat} {l2 : Int32} {l3 : Int32} {l4 : Int32} {fs5 : List Value} (h6 : f l1 = .inr (4, fs5)) (h7 : l1 < n) (h8 : mi_W d 46 0 (mi_en 1 [.ref l1]) [] (n, sl, f) (mi_Kc d 47 1 [some (.ref l1), some (.int l2), some (.int l3), some (.int l4)] [] Q)) : mi_W (d + 1) 47 0 [some (.ref l1), some (.int l2), some (.int l3), some (.int l4)] [] (n, sl, f) Q := by
  refine w_aload_n cd_47_0 rfl ?_
  exact w_invokevirtual cd_47_1 (show mt_m 4 33 = some (46, 0) by decide +kernel) (rest := []) rfl (as := [.ref l1]) rfl h6 (Or.inl h7) ⟨Nat.le_of_ble_eq_true rfl, Nat.le_of_ble_eq_true rfl, Nat.le_of_ble_eq_true rfl⟩ h8
theorem b_47_4 {d : Nat} {Q : (Option Value ⊕ Nat) → mi_H → Prop} (n sl : Nat) (f : Nat → mi_C) {l1 : Nat} {l2 : Int32} {l3 : Int32} {l4 : Int32} {s5 : Int32} (h6 : ¬ s5 = (0 : Int32) → mi_W d 47 9 [some (.ref l1), some (.int l2), some (.int l3), some (.int l4)] [] (n, sl, f) Q) (h7 : ¬ (¬ s5 = (0 : Int32)) → mi_W d 47 7 [some (.ref l1), some (.int l2), some (.int l3), some (.int l4)] [] (n, sl, f) Q) : mi_W d 47 4 [some (.ref l1), some (.int l2), some (.int l3), some (.int l4)] [.int s5] (n, sl, f) Q := by
  exact w_ifne cd_47_4 (by decide) h6 h7
theorem b_47_7 {d : Nat} {Q : (Option Value ⊕ Nat) → mi_H → Prop} (n sl : Nat) (f : Nat → mi_C) {l1 : Nat} {l2 : Int32} {l3 : Int32} {l4 : Int32} (h5 : Q (.inl (some (.int (-1)))) (n, sl, f)) : mi_W d 47 7 [some (.ref l1), some (.int l2), some (.int l3), some (.int l4)] [] (n, sl, f) Q := by
  refine w_iconst (v := (-1)) cd_47_7 (by decide) ?_
  exact w_ireturn_i cd_47_8 (by decide +kernel) h5
theorem b_47_9 {d : Nat} {Q : (Option Value ⊕ Nat) → mi_H → Prop} (n sl : Nat) (f : Nat → mi_C) {l1 : Nat} {l2 : Int32} {l3 : Int32} {l4 : Int32} {fs5 : List Value} {x8 : Nat} {fs10 : List Value} {x13 : Int32} (m15 i15 : Nat) (g15 : Nat → Int32) {fs19 : List Value} {x22 : Nat} {fs24 : List Value} {x27 : Int32} (m29 i29 : Nat) (g29 : Nat → Int32) {fs33 : List Value} {x36 : Nat} {fs38 : List Value} {x41 : Int32} (m43 i43 : Nat) (g43 : Nat → Int32) {fs47 : List Value} {x50 : Int32} {fs52 : List Value} {fs56 : List Value} {x59 : Int32} (h6 : f l1 = .inr (4, fs5)) (h7 : l1 < n) (h9 : fs5[1]? = some (.ref x8)) (h11 : f l1 = .inr (4, fs10)) (h12 : l1 < n) (h14 : fs10[4]? = some (.int x13)) (h16 : f x8 = .inl (0, m15, .inl g15)) (h17 : x8 < n) (h18 : mi_ix x13 m15 i15) (h20 : (va_up f x8 (.inl (0, m15, .inl (upd g15 i15 l2)))) l1 = .inr (4, fs19)) (h21 : l1 < n) (h23 : fs19[2]? = some (.ref x22)) (h25 : (va_up f x8 (.inl (0, m15, .inl (upd g15 i15 l2)))) l1 = .inr (4, fs24)) (h26 : l1 < n) (h28 : fs24[4]? = some (.int x27)) (h30 : (va_up f x8 (.inl (0, m15, .inl (upd g15 i15 l2)))) x22 = .inl (0, m29, .inl g29)) (h31 : x22 < n) (h32 : mi_ix x27 m29 i29) (h34 : (va_up (va_up f x8 (.inl (0, m15, .inl (upd g15 i15 l2)))) x22 (.inl (0, m29, .inl (upd g29 i29 l3)))) l1 = .inr (4, fs33)) (h35 : l1 < n) (h37 : fs33[3]? = some (.ref x36)) (h39 : (va_up (va_up f x8 (.inl (0, m15, .inl (upd g15 i15 l2)))) x22 (.inl (0, m29, .inl (upd g29 i29 l3)))) l1 = .inr (4, fs38)) (h40 : l1 < n) (h42 : fs38[4]? = some (.int x41)) (h44 : (va_up (va_up f x8 (.inl (0, m15, .inl (upd g15 i15 l2)))) x22 (.inl (0, m29, .inl (upd g29 i29 l3)))) x36 = .inl (0, m43, .inl g43)) (h45 : x36 < n) (h46 : mi_ix x41 m43 i43) (h48 : (va_up (va_up (va_up f x8 (.inl (0, m15, .inl (upd g15 i15 l2)))) x22 (.inl (0, m29, .inl (upd g29 i29 l3)))) x36 (.inl (0, m43, .inl (upd g43 i43 l4)))) l1 = .inr (4, fs47)) (h49 : l1 < n) (h51 : fs47[4]? = some (.int x50)) (h53 : (va_up (va_up (va_up f x8 (.inl (0, m15, .inl (upd g15 i15 l2)))) x22 (.inl (0, m29, .inl (upd g29 i29 l3)))) x36 (.inl (0, m43, .inl (upd g43 i43 l4)))) l1 = .inr (4, fs52)) (h54 : l1 < n) (h55 : 4 < fs52.length) (h57 : (va_up (va_up (va_up (va_up f x8 (.inl (0, m15, .inl (upd g15 i15 l2)))) x22 (.inl (0, m29, .inl (upd g29 i29 l3)))) x36 (.inl (0, m43, .inl (upd g43 i43 l4)))) l1 (.inr (4, fs52.set 4 (.int (x50 + 1))))) l1 = .inr (4, fs56)) (h58 : l1 < n) (h60 : fs56[4]? = some (.int x59)) (h61 : Q (.inl (some (.int (x59 - 1)))) (n, sl, (va_up (va_up (va_up (va_up f x8 (.inl (0, m15, .inl (upd g15 i15 l2)))) x22 (.inl (0, m29, .inl (upd g29 i29 l3)))) x36 (.inl (0, m43, .inl (upd g43 i43 l4)))) l1 (.inr (4, fs52.set 4 (.int (x50 + 1))))))) : mi_W d 47 9 [some (.ref l1), some (.int l2), some (.int l3), some (.int l4)] [] (n, sl, f) Q := by
  refine w_aload_n cd_47_9 rfl ?_
  refine w_getfield cd_47_10 (show mt_f 4 15 = some (4, 1) by decide +kernel) h6 h7 h9 ?_
  refine w_aload_n cd_47_13 rfl ?_
  refine w_getfield cd_47_14 (show mt_f 4 25 = some (4, 4) by decide +kernel) h11 h12 h14 ?_
  refine w_iload_n cd_47_17 rfl ?_
  refine w_iastore cd_47_18 h16 h17 h18 ?_
  refine w_aload_n cd_47_19 rfl ?_
  refine w_getfield cd_47_20 (show mt_f 4 19 = some (4, 2) by decide +kernel) h20 h21 h23 ?_
  refine w_aload_n cd_47_23 rfl ?_
  refine w_getfield cd_47_24 (show mt_f 4 25 = some (4, 4) by decide +kernel) h25 h26 h28 ?_
  refine w_iload_n cd_47_27 rfl ?_
  refine w_iastore cd_47_28 h30 h31 h32 ?_
  refine w_aload_n cd_47_29 rfl ?_
  refine w_getfield cd_47_30 (show mt_f 4 22 = some (4, 3) by decide +kernel) h34 h35 h37 ?_
  refine w_aload_n cd_47_33 rfl ?_
  refine w_getfield cd_47_34 (show mt_f 4 25 = some (4, 4) by decide +kernel) h39 h40 h42 ?_
  refine w_iload_n cd_47_37 rfl ?_
  refine w_iastore cd_47_38 h44 h45 h46 ?_
  refine w_aload_n cd_47_39 rfl ?_
  refine w_dup_r cd_47_40 ?_
  refine w_getfield cd_47_41 (show mt_f 4 25 = some (4, 4) by decide +kernel) h48 h49 h51 ?_
  refine w_iconst (v := 1) cd_47_44 (by decide) ?_
  refine w_iadd cd_47_45 ?_
  refine w_putfield (w := .int (x50 + 1)) cd_47_46 (show mt_f 4 25 = some (4, 4) by decide +kernel) h53 h54 ⟨h55, rfl, Or.inl (by decide)⟩ ?_
  refine w_aload_n cd_47_49 rfl ?_
  refine w_getfield cd_47_50 (show mt_f 4 25 = some (4, 4) by decide +kernel) h57 h58 h60 ?_
  refine w_iconst (v := 1) cd_47_53 (by decide) ?_
  refine w_isub cd_47_54 ?_
  exact w_ireturn_i cd_47_55 (by decide +kernel) h61
/-! MarloweHost$Reader.readValue(I)I -/
set_option maxRecDepth 100000 in
theorem mq_48 : mt_q 48 = my_48 := rfl
set_option maxRecDepth 100000 in
theorem ci_48 : mt_inc 0 my_48.cd = true := by decide +kernel
theorem cd_48_0 : mt_cd 48 0 = some (.aload_n 0) := mt_cd_of (q := (0, .aload_n 0, 1)) mq_48 ci_48 (List.mem_append_left _ (show _ ∈ my_48_0 from List.mem_of_getElem? (i := 0) rfl))
theorem cd_48_1 : mt_cd 48 1 = some (.iload_n 1) := mt_cd_of (q := (1, .iload_n 1, 1)) mq_48 ci_48 (List.mem_append_left _ (show _ ∈ my_48_0 from List.mem_of_getElem? (i := 1) rfl))
theorem cd_48_2 : mt_cd 48 2 = some (.bipush 100) := mt_cd_of (q := (2, .bipush 100, 2)) mq_48 ci_48 (List.mem_append_left _ (show _ ∈ my_48_0 from List.mem_of_getElem? (i := 2) rfl))
theorem cd_48_4 : mt_cd 48 4 = some (.if_icmp .gt 7) := mt_cd_of (q := (4, .if_icmp .gt 7, 3)) mq_48 ci_48 (List.mem_append_left _ (show _ ∈ my_48_0 from List.mem_of_getElem? (i := 3) rfl))
theorem cd_48_7 : mt_cd 48 7 = some (.iconst 1) := mt_cd_of (q := (7, .iconst 1, 1)) mq_48 ci_48 (List.mem_append_left _ (show _ ∈ my_48_0 from List.mem_of_getElem? (i := 4) rfl))
theorem cd_48_8 : mt_cd 48 8 = some (.goto 4) := mt_cd_of (q := (8, .goto 4, 3)) mq_48 ci_48 (List.mem_append_left _ (show _ ∈ my_48_0 from List.mem_of_getElem? (i := 5) rfl))
theorem cd_48_11 : mt_cd 48 11 = some (.iconst 0) := mt_cd_of (q := (11, .iconst 0, 1)) mq_48 ci_48 (List.mem_append_left _ (show _ ∈ my_48_0 from List.mem_of_getElem? (i := 6) rfl))
theorem cd_48_12 : mt_cd 48 12 = some (.invokevirtual 70) := mt_cd_of (q := (12, .invokevirtual 70, 3)) mq_48 ci_48 (List.mem_append_left _ (show _ ∈ my_48_0 from List.mem_of_getElem? (i := 7) rfl))
theorem cd_48_15 : mt_cd 48 15 = some (.aload_n 0) := mt_cd_of (q := (15, .aload_n 0, 1)) mq_48 ci_48 (List.mem_append_left _ (show _ ∈ my_48_0 from List.mem_of_getElem? (i := 8) rfl))
theorem cd_48_16 : mt_cd 48 16 = some (.getfield 15) := mt_cd_of (q := (16, .getfield 15, 3)) mq_48 ci_48 (List.mem_append_left _ (show _ ∈ my_48_0 from List.mem_of_getElem? (i := 9) rfl))
theorem cd_48_19 : mt_cd 48 19 = some (.getfield 67) := mt_cd_of (q := (19, .getfield 67, 3)) mq_48 ci_48 (List.mem_append_left _ (show _ ∈ my_48_0 from List.mem_of_getElem? (i := 10) rfl))
theorem cd_48_22 : mt_cd 48 22 = some (.bipush 24) := mt_cd_of (q := (22, .bipush 24, 2)) mq_48 ci_48 (List.mem_append_left _ (show _ ∈ my_48_0 from List.mem_of_getElem? (i := 11) rfl))
theorem cd_48_24 : mt_cd 48 24 = some (.if_icmp .ne 26) := mt_cd_of (q := (24, .if_icmp .ne 26, 3)) mq_48 ci_48 (List.mem_append_left _ (show _ ∈ my_48_0 from List.mem_of_getElem? (i := 12) rfl))
theorem cd_48_27 : mt_cd 48 27 = some (.aload_n 0) := mt_cd_of (q := (27, .aload_n 0, 1)) mq_48 ci_48 (List.mem_append_left _ (show _ ∈ my_48_0 from List.mem_of_getElem? (i := 13) rfl))
theorem cd_48_28 : mt_cd 48 28 = some (.getfield 15) := mt_cd_of (q := (28, .getfield 15, 3)) mq_48 ci_48 (List.mem_append_left _ (show _ ∈ my_48_0 from List.mem_of_getElem? (i := 14) rfl))
theorem cd_48_31 : mt_cd 48 31 = some (.invokevirtual 84) := mt_cd_of (q := (31, .invokevirtual 84, 3)) mq_48 ci_48 (List.mem_append_left _ (show _ ∈ my_48_0 from List.mem_of_getElem? (i := 15) rfl))
theorem cd_48_34 : mt_cd 48 34 = some (.aload_n 0) := mt_cd_of (q := (34, .aload_n 0, 1)) mq_48 ci_48 (List.mem_append_left _ (show _ ∈ my_48_0 from List.mem_of_getElem? (i := 16) rfl))
theorem cd_48_35 : mt_cd 48 35 = some (.iload_n 1) := mt_cd_of (q := (35, .iload_n 1, 1)) mq_48 ci_48 (List.mem_append_left _ (show _ ∈ my_48_0 from List.mem_of_getElem? (i := 17) rfl))
theorem cd_48_36 : mt_cd 48 36 = some (.iconst 1) := mt_cd_of (q := (36, .iconst 1, 1)) mq_48 ci_48 (List.mem_append_left _ (show _ ∈ my_48_0 from List.mem_of_getElem? (i := 18) rfl))
theorem cd_48_37 : mt_cd 48 37 = some (.iadd) := mt_cd_of (q := (37, .iadd, 1)) mq_48 ci_48 (List.mem_append_left _ (show _ ∈ my_48_0 from List.mem_of_getElem? (i := 19) rfl))
theorem cd_48_38 : mt_cd 48 38 = some (.invokevirtual 113) := mt_cd_of (q := (38, .invokevirtual 113, 3)) mq_48 ci_48 (List.mem_append_left _ (show _ ∈ my_48_0 from List.mem_of_getElem? (i := 20) rfl))
theorem cd_48_41 : mt_cd 48 41 = some (.istore_n 2) := mt_cd_of (q := (41, .istore_n 2, 1)) mq_48 ci_48 (List.mem_append_left _ (show _ ∈ my_48_0 from List.mem_of_getElem? (i := 21) rfl))
theorem cd_48_42 : mt_cd 48 42 = some (.aload_n 0) := mt_cd_of (q := (42, .aload_n 0, 1)) mq_48 ci_48 (List.mem_append_left _ (show _ ∈ my_48_0 from List.mem_of_getElem? (i := 22) rfl))
theorem cd_48_43 : mt_cd 48 43 = some (.bipush 25) := mt_cd_of (q := (43, .bipush 25, 2)) mq_48 ci_48 (List.mem_append_left _ (show _ ∈ my_48_0 from List.mem_of_getElem? (i := 23) rfl))
theorem cd_48_45 : mt_cd 48 45 = some (.invokevirtual 99) := mt_cd_of (q := (45, .invokevirtual 99, 3)) mq_48 ci_48 (List.mem_append_left _ (show _ ∈ my_48_0 from List.mem_of_getElem? (i := 24) rfl))
theorem cd_48_48 : mt_cd 48 48 = some (.iload_n 2) := mt_cd_of (q := (48, .iload_n 2, 1)) mq_48 ci_48 (List.mem_append_left _ (show _ ∈ my_48_0 from List.mem_of_getElem? (i := 25) rfl))
theorem cd_48_49 : mt_cd 48 49 = some (.ireturn) := mt_cd_of (q := (49, .ireturn, 1)) mq_48 ci_48 (List.mem_append_left _ (show _ ∈ my_48_0 from List.mem_of_getElem? (i := 26) rfl))
theorem cd_48_50 : mt_cd 48 50 = some (.aload_n 0) := mt_cd_of (q := (50, .aload_n 0, 1)) mq_48 ci_48 (List.mem_append_left _ (show _ ∈ my_48_0 from List.mem_of_getElem? (i := 27) rfl))
theorem cd_48_51 : mt_cd 48 51 = some (.getfield 15) := mt_cd_of (q := (51, .getfield 15, 3)) mq_48 ci_48 (List.mem_append_left _ (show _ ∈ my_48_0 from List.mem_of_getElem? (i := 28) rfl))
theorem cd_48_54 : mt_cd 48 54 = some (.getfield 67) := mt_cd_of (q := (54, .getfield 67, 3)) mq_48 ci_48 (List.mem_append_left _ (show _ ∈ my_48_0 from List.mem_of_getElem? (i := 29) rfl))
theorem cd_48_57 : mt_cd 48 57 = some (.istore_n 2) := mt_cd_of (q := (57, .istore_n 2, 1)) mq_48 ci_48 (List.mem_append_left _ (show _ ∈ my_48_0 from List.mem_of_getElem? (i := 30) rfl))
theorem cd_48_58 : mt_cd 48 58 = some (.iload_n 2) := mt_cd_of (q := (58, .iload_n 2, 1)) mq_48 ci_48 (List.mem_append_left _ (show _ ∈ my_48_0 from List.mem_of_getElem? (i := 31) rfl))
theorem cd_48_59 : mt_cd 48 59 = some (.bipush 28) := mt_cd_of (q := (59, .bipush 28, 2)) mq_48 ci_48 (List.mem_append_left _ (show _ ∈ my_48_0 from List.mem_of_getElem? (i := 32) rfl))
theorem cd_48_61 : mt_cd 48 61 = some (.if_icmp .lt 13) := mt_cd_of (q := (61, .if_icmp .lt 13, 3)) mq_48 ci_48 (List.mem_append_left _ (show _ ∈ my_48_0 from List.mem_of_getElem? (i := 33) rfl))
theorem cd_48_64 : mt_cd 48 64 = some (.iload_n 2) := mt_cd_of (q := (64, .iload_n 2, 1)) mq_48 ci_48 (List.mem_append_left _ (show _ ∈ my_48_0 from List.mem_of_getElem? (i := 34) rfl))
theorem cd_48_65 : mt_cd 48 65 = some (.bipush 31) := mt_cd_of (q := (65, .bipush 31, 2)) mq_48 ci_48 (List.mem_append_left _ (show _ ∈ my_48_0 from List.mem_of_getElem? (i := 35) rfl))
theorem cd_48_67 : mt_cd 48 67 = some (.if_icmp .gt 7) := mt_cd_of (q := (67, .if_icmp .gt 7, 3)) mq_48 ci_48 (List.mem_append_left _ (show _ ∈ my_48_0 from List.mem_of_getElem? (i := 36) rfl))
theorem cd_48_70 : mt_cd 48 70 = some (.iconst 1) := mt_cd_of (q := (70, .iconst 1, 1)) mq_48 ci_48 (List.mem_append_left _ (show _ ∈ my_48_0 from List.mem_of_getElem? (i := 37) rfl))
theorem cd_48_71 : mt_cd 48 71 = some (.goto 4) := mt_cd_of (q := (71, .goto 4, 3)) mq_48 ci_48 (List.mem_append_left _ (show _ ∈ my_48_0 from List.mem_of_getElem? (i := 38) rfl))
theorem cd_48_74 : mt_cd 48 74 = some (.iconst 0) := mt_cd_of (q := (74, .iconst 0, 1)) mq_48 ci_48 (List.mem_append_left _ (show _ ∈ my_48_0 from List.mem_of_getElem? (i := 39) rfl))
theorem cd_48_75 : mt_cd 48 75 = some (.istore_n 3) := mt_cd_of (q := (75, .istore_n 3, 1)) mq_48 ci_48 (List.mem_append_left _ (show _ ∈ my_48_0 from List.mem_of_getElem? (i := 40) rfl))
theorem cd_48_76 : mt_cd 48 76 = some (.aload_n 0) := mt_cd_of (q := (76, .aload_n 0, 1)) mq_48 ci_48 (List.mem_append_left _ (show _ ∈ my_48_0 from List.mem_of_getElem? (i := 41) rfl))
theorem cd_48_77 : mt_cd 48 77 = some (.iload_n 2) := mt_cd_of (q := (77, .iload_n 2, 1)) mq_48 ci_48 (List.mem_append_left _ (show _ ∈ my_48_0 from List.mem_of_getElem? (i := 42) rfl))
theorem cd_48_78 : mt_cd 48 78 = some (.bipush 37) := mt_cd_of (q := (78, .bipush 37, 2)) mq_48 ci_48 (List.mem_append_left _ (show _ ∈ my_48_0 from List.mem_of_getElem? (i := 43) rfl))
theorem cd_48_80 : mt_cd 48 80 = some (.if_icmp .eq 19) := mt_cd_of (q := (80, .if_icmp .eq 19, 3)) mq_48 ci_48 (List.mem_append_left _ (show _ ∈ my_48_0 from List.mem_of_getElem? (i := 44) rfl))
theorem cd_48_83 : mt_cd 48 83 = some (.iload_n 3) := mt_cd_of (q := (83, .iload_n 3, 1)) mq_48 ci_48 (List.mem_append_left _ (show _ ∈ my_48_0 from List.mem_of_getElem? (i := 45) rfl))
theorem cd_48_84 : mt_cd 48 84 = some (.ifCond .ne 15) := mt_cd_of (q := (84, .ifCond .ne 15, 3)) mq_48 ci_48 (List.mem_append_left _ (show _ ∈ my_48_0 from List.mem_of_getElem? (i := 46) rfl))
theorem cd_48_87 : mt_cd 48 87 = some (.iload_n 2) := mt_cd_of (q := (87, .iload_n 2, 1)) mq_48 ci_48 (List.mem_append_left _ (show _ ∈ my_48_0 from List.mem_of_getElem? (i := 47) rfl))
theorem cd_48_88 : mt_cd 48 88 = some (.bipush 11) := mt_cd_of (q := (88, .bipush 11, 2)) mq_48 ci_48 (List.mem_append_left _ (show _ ∈ my_48_0 from List.mem_of_getElem? (i := 48) rfl))
theorem cd_48_90 : mt_cd 48 90 = some (.if_icmp .lt 13) := mt_cd_of (q := (90, .if_icmp .lt 13, 3)) mq_48 ci_48 (List.mem_append_left _ (show _ ∈ my_48_0 from List.mem_of_getElem? (i := 49) rfl))
theorem cd_48_93 : mt_cd 48 93 = some (.iload_n 2) := mt_cd_of (q := (93, .iload_n 2, 1)) mq_48 ci_48 (List.mem_append_left _ (show _ ∈ my_48_0 from List.mem_of_getElem? (i := 50) rfl))
theorem cd_48_94 : mt_cd 48 94 = some (.bipush 17) := mt_cd_of (q := (94, .bipush 17, 2)) mq_48 ci_48 (List.mem_append_left _ (show _ ∈ my_48_0 from List.mem_of_getElem? (i := 51) rfl))
theorem cd_48_96 : mt_cd 48 96 = some (.if_icmp .gt 7) := mt_cd_of (q := (96, .if_icmp .gt 7, 3)) mq_48 ci_48 (List.mem_append_left _ (show _ ∈ my_48_0 from List.mem_of_getElem? (i := 52) rfl))
theorem cd_48_99 : mt_cd 48 99 = some (.iconst 1) := mt_cd_of (q := (99, .iconst 1, 1)) mq_48 ci_48 (List.mem_append_left _ (show _ ∈ my_48_0 from List.mem_of_getElem? (i := 53) rfl))
theorem cd_48_100 : mt_cd 48 100 = some (.goto 4) := mt_cd_of (q := (100, .goto 4, 3)) mq_48 ci_48 (List.mem_append_left _ (show _ ∈ my_48_0 from List.mem_of_getElem? (i := 54) rfl))
theorem cd_48_103 : mt_cd 48 103 = some (.iconst 0) := mt_cd_of (q := (103, .iconst 0, 1)) mq_48 ci_48 (List.mem_append_left _ (show _ ∈ my_48_0 from List.mem_of_getElem? (i := 55) rfl))
theorem cd_48_104 : mt_cd 48 104 = some (.invokevirtual 70) := mt_cd_of (q := (104, .invokevirtual 70, 3)) mq_48 ci_48 (List.mem_append_left _ (show _ ∈ my_48_0 from List.mem_of_getElem? (i := 56) rfl))
theorem cd_48_107 : mt_cd 48 107 = some (.aload_n 0) := mt_cd_of (q := (107, .aload_n 0, 1)) mq_48 ci_48 (List.mem_append_left _ (show _ ∈ my_48_0 from List.mem_of_getElem? (i := 57) rfl))
theorem cd_48_108 : mt_cd 48 108 = some (.invokevirtual 102) := mt_cd_of (q := (108, .invokevirtual 102, 3)) mq_48 ci_48 (List.mem_append_left _ (show _ ∈ my_48_0 from List.mem_of_getElem? (i := 58) rfl))
theorem cd_48_111 : mt_cd 48 111 = some (.istore 4) := mt_cd_of (q := (111, .istore 4, 2)) mq_48 ci_48 (List.mem_append_left _ (show _ ∈ my_48_0 from List.mem_of_getElem? (i := 59) rfl))
theorem cd_48_113 : mt_cd 48 113 = some (.iload_n 2) := mt_cd_of (q := (113, .iload_n 2, 1)) mq_48 ci_48 (List.mem_append_right _ (List.mem_append_left _ (show _ ∈ my_48_1 from List.mem_of_getElem? (i := 0) rfl)))
theorem cd_48_114 : mt_cd 48 114 = some (.bipush 11) := mt_cd_of (q := (114, .bipush 11, 2)) mq_48 ci_48 (List.mem_append_right _ (List.mem_append_left _ (show _ ∈ my_48_1 from List.mem_of_getElem? (i := 1) rfl)))
theorem cd_48_116 : mt_cd 48 116 = some (.if_icmp .ne 42) := mt_cd_of (q := (116, .if_icmp .ne 42, 3)) mq_48 ci_48 (List.mem_append_right _ (List.mem_append_left _ (show _ ∈ my_48_1 from List.mem_of_getElem? (i := 2) rfl)))
theorem cd_48_119 : mt_cd 48 119 = some (.aload_n 0) := mt_cd_of (q := (119, .aload_n 0, 1)) mq_48 ci_48 (List.mem_append_right _ (List.mem_append_left _ (show _ ∈ my_48_1 from List.mem_of_getElem? (i := 3) rfl)))
theorem cd_48_120 : mt_cd 48 120 = some (.getfield 19) := mt_cd_of (q := (120, .getfield 19, 3)) mq_48 ci_48 (List.mem_append_right _ (List.mem_append_left _ (show _ ∈ my_48_1 from List.mem_of_getElem? (i := 4) rfl)))
theorem cd_48_123 : mt_cd 48 123 = some (.getfield 128) := mt_cd_of (q := (123, .getfield 128, 3)) mq_48 ci_48 (List.mem_append_right _ (List.mem_append_left _ (show _ ∈ my_48_1 from List.mem_of_getElem? (i := 5) rfl)))
theorem cd_48_126 : mt_cd 48 126 = some (.iload 4) := mt_cd_of (q := (126, .iload 4, 2)) mq_48 ci_48 (List.mem_append_right _ (List.mem_append_left _ (show _ ∈ my_48_1 from List.mem_of_getElem? (i := 6) rfl)))
theorem cd_48_128 : mt_cd 48 128 = some (.aload_n 0) := mt_cd_of (q := (128, .aload_n 0, 1)) mq_48 ci_48 (List.mem_append_right _ (List.mem_append_left _ (show _ ∈ my_48_1 from List.mem_of_getElem? (i := 7) rfl)))
theorem cd_48_129 : mt_cd 48 129 = some (.aload_n 0) := mt_cd_of (q := (129, .aload_n 0, 1)) mq_48 ci_48 (List.mem_append_right _ (List.mem_append_left _ (show _ ∈ my_48_1 from List.mem_of_getElem? (i := 8) rfl)))
theorem cd_48_130 : mt_cd 48 130 = some (.getfield 34) := mt_cd_of (q := (130, .getfield 34, 3)) mq_48 ci_48 (List.mem_append_right _ (List.mem_append_left _ (show _ ∈ my_48_1 from List.mem_of_getElem? (i := 9) rfl)))
theorem cd_48_133 : mt_cd 48 133 = some (.invokevirtual 131) := mt_cd_of (q := (133, .invokevirtual 131, 3)) mq_48 ci_48 (List.mem_append_right _ (List.mem_append_left _ (show _ ∈ my_48_1 from List.mem_of_getElem? (i := 10) rfl)))
theorem cd_48_136 : mt_cd 48 136 = some (.iastore) := mt_cd_of (q := (136, .iastore, 1)) mq_48 ci_48 (List.mem_append_right _ (List.mem_append_left _ (show _ ∈ my_48_1 from List.mem_of_getElem? (i := 11) rfl)))
theorem cd_48_137 : mt_cd 48 137 = some (.aload_n 0) := mt_cd_of (q := (137, .aload_n 0, 1)) mq_48 ci_48 (List.mem_append_right _ (List.mem_append_left _ (show _ ∈ my_48_1 from List.mem_of_getElem? (i := 12) rfl)))
theorem cd_48_138 : mt_cd 48 138 = some (.getfield 19) := mt_cd_of (q := (138, .getfield 19, 3)) mq_48 ci_48 (List.mem_append_right _ (List.mem_append_left _ (show _ ∈ my_48_1 from List.mem_of_getElem? (i := 13) rfl)))
theorem cd_48_141 : mt_cd 48 141 = some (.getfield 151) := mt_cd_of (q := (141, .getfield 151, 3)) mq_48 ci_48 (List.mem_append_right _ (List.mem_append_left _ (show _ ∈ my_48_1 from List.mem_of_getElem? (i := 14) rfl)))
theorem cd_48_144 : mt_cd 48 144 = some (.iload 4) := mt_cd_of (q := (144, .iload 4, 2)) mq_48 ci_48 (List.mem_append_right _ (List.mem_append_left _ (show _ ∈ my_48_1 from List.mem_of_getElem? (i := 15) rfl)))
theorem cd_48_146 : mt_cd 48 146 = some (.aload_n 0) := mt_cd_of (q := (146, .aload_n 0, 1)) mq_48 ci_48 (List.mem_append_right _ (List.mem_append_left _ (show _ ∈ my_48_1 from List.mem_of_getElem? (i := 16) rfl)))
theorem cd_48_147 : mt_cd 48 147 = some (.aload_n 0) := mt_cd_of (q := (147, .aload_n 0, 1)) mq_48 ci_48 (List.mem_append_right _ (List.mem_append_left _ (show _ ∈ my_48_1 from List.mem_of_getElem? (i := 17) rfl)))
theorem cd_48_148 : mt_cd 48 148 = some (.getfield 38) := mt_cd_of (q := (148, .getfield 38, 3)) mq_48 ci_48 (List.mem_append_right _ (List.mem_append_left _ (show _ ∈ my_48_1 from List.mem_of_getElem? (i := 18) rfl)))
theorem cd_48_151 : mt_cd 48 151 = some (.invokevirtual 131) := mt_cd_of (q := (151, .invokevirtual 131, 3)) mq_48 ci_48 (List.mem_append_right _ (List.mem_append_left _ (show _ ∈ my_48_1 from List.mem_of_getElem? (i := 19) rfl)))
theorem cd_48_154 : mt_cd 48 154 = some (.iastore) := mt_cd_of (q := (154, .iastore, 1)) mq_48 ci_48 (List.mem_append_right _ (List.mem_append_left _ (show _ ∈ my_48_1 from List.mem_of_getElem? (i := 20) rfl)))
theorem cd_48_155 : mt_cd 48 155 = some (.goto 123) := mt_cd_of (q := (155, .goto 123, 3)) mq_48 ci_48 (List.mem_append_right _ (List.mem_append_left _ (show _ ∈ my_48_1 from List.mem_of_getElem? (i := 21) rfl)))
theorem cd_48_158 : mt_cd 48 158 = some (.iload_n 2) := mt_cd_of (q := (158, .iload_n 2, 1)) mq_48 ci_48 (List.mem_append_right _ (List.mem_append_left _ (show _ ∈ my_48_1 from List.mem_of_getElem? (i := 22) rfl)))
theorem cd_48_159 : mt_cd 48 159 = some (.bipush 13) := mt_cd_of (q := (159, .bipush 13, 2)) mq_48 ci_48 (List.mem_append_right _ (List.mem_append_left _ (show _ ∈ my_48_1 from List.mem_of_getElem? (i := 23) rfl)))
theorem cd_48_161 : mt_cd 48 161 = some (.if_icmp .ne 20) := mt_cd_of (q := (161, .if_icmp .ne 20, 3)) mq_48 ci_48 (List.mem_append_right _ (List.mem_append_left _ (show _ ∈ my_48_1 from List.mem_of_getElem? (i := 24) rfl)))
theorem cd_48_164 : mt_cd 48 164 = some (.aload_n 0) := mt_cd_of (q := (164, .aload_n 0, 1)) mq_48 ci_48 (List.mem_append_right _ (List.mem_append_left _ (show _ ∈ my_48_1 from List.mem_of_getElem? (i := 25) rfl)))
theorem cd_48_165 : mt_cd 48 165 = some (.getfield 19) := mt_cd_of (q := (165, .getfield 19, 3)) mq_48 ci_48 (List.mem_append_right _ (List.mem_append_left _ (show _ ∈ my_48_1 from List.mem_of_getElem? (i := 26) rfl)))
theorem cd_48_168 : mt_cd 48 168 = some (.getfield 128) := mt_cd_of (q := (168, .getfield 128, 3)) mq_48 ci_48 (List.mem_append_right _ (List.mem_append_left _ (show _ ∈ my_48_1 from List.mem_of_getElem? (i := 27) rfl)))
theorem cd_48_171 : mt_cd 48 171 = some (.iload 4) := mt_cd_of (q := (171, .iload 4, 2)) mq_48 ci_48 (List.mem_append_right _ (List.mem_append_left _ (show _ ∈ my_48_1 from List.mem_of_getElem? (i := 28) rfl)))
theorem cd_48_173 : mt_cd 48 173 = some (.aload_n 0) := mt_cd_of (q := (173, .aload_n 0, 1)) mq_48 ci_48 (List.mem_append_right _ (List.mem_append_left _ (show _ ∈ my_48_1 from List.mem_of_getElem? (i := 29) rfl)))
theorem cd_48_174 : mt_cd 48 174 = some (.invokevirtual 157) := mt_cd_of (q := (174, .invokevirtual 157, 3)) mq_48 ci_48 (List.mem_append_right _ (List.mem_append_left _ (show _ ∈ my_48_1 from List.mem_of_getElem? (i := 30) rfl)))
theorem cd_48_177 : mt_cd 48 177 = some (.iastore) := mt_cd_of (q := (177, .iastore, 1)) mq_48 ci_48 (List.mem_append_right _ (List.mem_append_left _ (show _ ∈ my_48_1 from List.mem_of_getElem? (i := 31) rfl)))
theorem cd_48_178 : mt_cd 48 178 = some (.goto 100) := mt_cd_of (q := (178, .goto 100, 3)) mq_48 ci_48 (List.mem_append_right _ (List.mem_append_left _ (show _ ∈ my_48_1 from List.mem_of_getElem? (i := 32) rfl)))
theorem cd_48_181 : mt_cd 48 181 = some (.iload_n 2) := mt_cd_of (q := (181, .iload_n 2, 1)) mq_48 ci_48 (List.mem_append_right _ (List.mem_append_left _ (show _ ∈ my_48_1 from List.mem_of_getElem? (i := 33) rfl)))
theorem cd_48_182 : mt_cd 48 182 = some (.bipush 14) := mt_cd_of (q := (182, .bipush 14, 2)) mq_48 ci_48 (List.mem_append_right _ (List.mem_append_left _ (show _ ∈ my_48_1 from List.mem_of_getElem? (i := 34) rfl)))
theorem cd_48_184 : mt_cd 48 184 = some (.if_icmp .ne 24) := mt_cd_of (q := (184, .if_icmp .ne 24, 3)) mq_48 ci_48 (List.mem_append_right _ (List.mem_append_left _ (show _ ∈ my_48_1 from List.mem_of_getElem? (i := 35) rfl)))
theorem cd_48_187 : mt_cd 48 187 = some (.aload_n 0) := mt_cd_of (q := (187, .aload_n 0, 1)) mq_48 ci_48 (List.mem_append_right _ (List.mem_append_left _ (show _ ∈ my_48_1 from List.mem_of_getElem? (i := 36) rfl)))
theorem cd_48_188 : mt_cd 48 188 = some (.getfield 19) := mt_cd_of (q := (188, .getfield 19, 3)) mq_48 ci_48 (List.mem_append_right _ (List.mem_append_left _ (show _ ∈ my_48_1 from List.mem_of_getElem? (i := 37) rfl)))
theorem cd_48_191 : mt_cd 48 191 = some (.getfield 128) := mt_cd_of (q := (191, .getfield 128, 3)) mq_48 ci_48 (List.mem_append_right _ (List.mem_append_left _ (show _ ∈ my_48_1 from List.mem_of_getElem? (i := 38) rfl)))
theorem cd_48_194 : mt_cd 48 194 = some (.iload 4) := mt_cd_of (q := (194, .iload 4, 2)) mq_48 ci_48 (List.mem_append_right _ (List.mem_append_left _ (show _ ∈ my_48_1 from List.mem_of_getElem? (i := 39) rfl)))
theorem cd_48_196 : mt_cd 48 196 = some (.aload_n 0) := mt_cd_of (q := (196, .aload_n 0, 1)) mq_48 ci_48 (List.mem_append_right _ (List.mem_append_left _ (show _ ∈ my_48_1 from List.mem_of_getElem? (i := 40) rfl)))
theorem cd_48_197 : mt_cd 48 197 = some (.aload_n 0) := mt_cd_of (q := (197, .aload_n 0, 1)) mq_48 ci_48 (List.mem_append_right _ (List.mem_append_left _ (show _ ∈ my_48_1 from List.mem_of_getElem? (i := 41) rfl)))
theorem cd_48_198 : mt_cd 48 198 = some (.getfield 44) := mt_cd_of (q := (198, .getfield 44, 3)) mq_48 ci_48 (List.mem_append_right _ (List.mem_append_left _ (show _ ∈ my_48_1 from List.mem_of_getElem? (i := 42) rfl)))
theorem cd_48_201 : mt_cd 48 201 = some (.invokevirtual 131) := mt_cd_of (q := (201, .invokevirtual 131, 3)) mq_48 ci_48 (List.mem_append_right _ (List.mem_append_left _ (show _ ∈ my_48_1 from List.mem_of_getElem? (i := 43) rfl)))
theorem cd_48_204 : mt_cd 48 204 = some (.iastore) := mt_cd_of (q := (204, .iastore, 1)) mq_48 ci_48 (List.mem_append_right _ (List.mem_append_left _ (show _ ∈ my_48_1 from List.mem_of_getElem? (i := 44) rfl)))
theorem cd_48_205 : mt_cd 48 205 = some (.goto 73) := mt_cd_of (q := (205, .goto 73, 3)) mq_48 ci_48 (List.mem_append_right _ (List.mem_append_left _ (show _ ∈ my_48_1 from List.mem_of_getElem? (i := 45) rfl)))
theorem cd_48_208 : mt_cd 48 208 = some (.iload_n 2) := mt_cd_of (q := (208, .iload_n 2, 1)) mq_48 ci_48 (List.mem_append_right _ (List.mem_append_left _ (show _ ∈ my_48_1 from List.mem_of_getElem? (i := 46) rfl)))
theorem cd_48_209 : mt_cd 48 209 = some (.bipush 12) := mt_cd_of (q := (209, .bipush 12, 2)) mq_48 ci_48 (List.mem_append_right _ (List.mem_append_left _ (show _ ∈ my_48_1 from List.mem_of_getElem? (i := 47) rfl)))
theorem cd_48_211 : mt_cd 48 211 = some (.if_icmp .eq 7) := mt_cd_of (q := (211, .if_icmp .eq 7, 3)) mq_48 ci_48 (List.mem_append_right _ (List.mem_append_left _ (show _ ∈ my_48_1 from List.mem_of_getElem? (i := 48) rfl)))
theorem cd_48_214 : mt_cd 48 214 = some (.iload_n 3) := mt_cd_of (q := (214, .iload_n 3, 1)) mq_48 ci_48 (List.mem_append_right _ (List.mem_append_left _ (show _ ∈ my_48_1 from List.mem_of_getElem? (i := 49) rfl)))
theorem cd_48_215 : mt_cd 48 215 = some (.ifCond .eq 23) := mt_cd_of (q := (215, .ifCond .eq 23, 3)) mq_48 ci_48 (List.mem_append_right _ (List.mem_append_left _ (show _ ∈ my_48_1 from List.mem_of_getElem? (i := 50) rfl)))
theorem cd_48_218 : mt_cd 48 218 = some (.aload_n 0) := mt_cd_of (q := (218, .aload_n 0, 1)) mq_48 ci_48 (List.mem_append_right _ (List.mem_append_left _ (show _ ∈ my_48_1 from List.mem_of_getElem? (i := 51) rfl)))
theorem cd_48_219 : mt_cd 48 219 = some (.getfield 19) := mt_cd_of (q := (219, .getfield 19, 3)) mq_48 ci_48 (List.mem_append_right _ (List.mem_append_left _ (show _ ∈ my_48_1 from List.mem_of_getElem? (i := 52) rfl)))
theorem cd_48_222 : mt_cd 48 222 = some (.getfield 109) := mt_cd_of (q := (222, .getfield 109, 3)) mq_48 ci_48 (List.mem_append_right _ (List.mem_append_left _ (show _ ∈ my_48_1 from List.mem_of_getElem? (i := 53) rfl)))
theorem cd_48_225 : mt_cd 48 225 = some (.iload 4) := mt_cd_of (q := (225, .iload 4, 2)) mq_48 ci_48 (List.mem_append_right _ (List.mem_append_left _ (show _ ∈ my_48_1 from List.mem_of_getElem? (i := 54) rfl)))
theorem cd_48_227 : mt_cd 48 227 = some (.aload_n 0) := mt_cd_of (q := (227, .aload_n 0, 1)) mq_48 ci_48 (List.mem_append_right _ (List.mem_append_left _ (show _ ∈ my_48_1 from List.mem_of_getElem? (i := 55) rfl)))
theorem cd_48_228 : mt_cd 48 228 = some (.iload_n 1) := mt_cd_of (q := (228, .iload_n 1, 1)) mq_48 ci_48 (List.mem_append_right _ (List.mem_append_left _ (show _ ∈ my_48_1 from List.mem_of_getElem? (i := 56) rfl)))
theorem cd_48_229 : mt_cd 48 229 = some (.iconst 1) := mt_cd_of (q := (229, .iconst 1, 1)) mq_48 ci_48 (List.mem_append_right _ (List.mem_append_left _ (show _ ∈ my_48_1 from List.mem_of_getElem? (i := 57) rfl)))
theorem cd_48_230 : mt_cd 48 230 = some (.iadd) := mt_cd_of (q := (230, .iadd, 1)) mq_48 ci_48 (List.mem_append_right _ (List.mem_append_left _ (show _ ∈ my_48_1 from List.mem_of_getElem? (i := 58) rfl)))
theorem cd_48_231 : mt_cd 48 231 = some (.invokevirtual 113) := mt_cd_of (q := (231, .invokevirtual 113, 3)) mq_48 ci_48 (List.mem_append_right _ (List.mem_append_left _ (show _ ∈ my_48_1 from List.mem_of_getElem? (i := 59) rfl)))
theorem cd_48_234 : mt_cd 48 234 = some (.iastore) := mt_cd_of (q := (234, .iastore, 1)) mq_48 ci_48 (List.mem_append_right _ (List.mem_append_right _ ((show _ ∈ my_48_2 from List.mem_of_getElem? (i := 0) rfl))))
theorem cd_48_235 : mt_cd 48 235 = some (.goto 43) := mt_cd_of (q := (235, .goto 43, 3)) mq_48 ci_48 (List.mem_append_right _ (List.mem_append_right _ ((show _ ∈ my_48_2 from List.mem_of_getElem? (i := 1) rfl))))
theorem cd_48_238 : mt_cd 48 238 = some (.iload_n 2) := mt_cd_of (q := (238, .iload_n 2, 1)) mq_48 ci_48 (List.mem_append_right _ (List.mem_append_right _ ((show _ ∈ my_48_2 from List.mem_of_getElem? (i := 2) rfl))))
theorem cd_48_239 : mt_cd 48 239 = some (.bipush 17) := mt_cd_of (q := (239, .bipush 17, 2)) mq_48 ci_48 (List.mem_append_right _ (List.mem_append_right _ ((show _ ∈ my_48_2 from List.mem_of_getElem? (i := 3) rfl))))
theorem cd_48_241 : mt_cd 48 241 = some (.if_icmp .ne 37) := mt_cd_of (q := (241, .if_icmp .ne 37, 3)) mq_48 ci_48 (List.mem_append_right _ (List.mem_append_right _ ((show _ ∈ my_48_2 from List.mem_of_getElem? (i := 4) rfl))))
theorem cd_48_244 : mt_cd 48 244 = some (.aload_n 0) := mt_cd_of (q := (244, .aload_n 0, 1)) mq_48 ci_48 (List.mem_append_right _ (List.mem_append_right _ ((show _ ∈ my_48_2 from List.mem_of_getElem? (i := 5) rfl))))
theorem cd_48_245 : mt_cd 48 245 = some (.getfield 19) := mt_cd_of (q := (245, .getfield 19, 3)) mq_48 ci_48 (List.mem_append_right _ (List.mem_append_right _ ((show _ ∈ my_48_2 from List.mem_of_getElem? (i := 6) rfl))))
theorem cd_48_248 : mt_cd 48 248 = some (.getfield 109) := mt_cd_of (q := (248, .getfield 109, 3)) mq_48 ci_48 (List.mem_append_right _ (List.mem_append_right _ ((show _ ∈ my_48_2 from List.mem_of_getElem? (i := 7) rfl))))
theorem cd_48_251 : mt_cd 48 251 = some (.iload 4) := mt_cd_of (q := (251, .iload 4, 2)) mq_48 ci_48 (List.mem_append_right _ (List.mem_append_right _ ((show _ ∈ my_48_2 from List.mem_of_getElem? (i := 8) rfl))))
theorem cd_48_253 : mt_cd 48 253 = some (.aload_n 0) := mt_cd_of (q := (253, .aload_n 0, 1)) mq_48 ci_48 (List.mem_append_right _ (List.mem_append_right _ ((show _ ∈ my_48_2 from List.mem_of_getElem? (i := 9) rfl))))
theorem cd_48_254 : mt_cd 48 254 = some (.iload_n 1) := mt_cd_of (q := (254, .iload_n 1, 1)) mq_48 ci_48 (List.mem_append_right _ (List.mem_append_right _ ((show _ ∈ my_48_2 from List.mem_of_getElem? (i := 10) rfl))))
theorem cd_48_255 : mt_cd 48 255 = some (.iconst 1) := mt_cd_of (q := (255, .iconst 1, 1)) mq_48 ci_48 (List.mem_append_right _ (List.mem_append_right _ ((show _ ∈ my_48_2 from List.mem_of_getElem? (i := 11) rfl))))
theorem cd_48_256 : mt_cd 48 256 = some (.iadd) := mt_cd_of (q := (256, .iadd, 1)) mq_48 ci_48 (List.mem_append_right _ (List.mem_append_right _ ((show _ ∈ my_48_2 from List.mem_of_getElem? (i := 12) rfl))))
theorem cd_48_257 : mt_cd 48 257 = some (.invokevirtual 135) := mt_cd_of (q := (257, .invokevirtual 135, 3)) mq_48 ci_48 (List.mem_append_right _ (List.mem_append_right _ ((show _ ∈ my_48_2 from List.mem_of_getElem? (i := 13) rfl))))
theorem cd_48_260 : mt_cd 48 260 = some (.iastore) := mt_cd_of (q := (260, .iastore, 1)) mq_48 ci_48 (List.mem_append_right _ (List.mem_append_right _ ((show _ ∈ my_48_2 from List.mem_of_getElem? (i := 14) rfl))))
theorem cd_48_261 : mt_cd 48 261 = some (.aload_n 0) := mt_cd_of (q := (261, .aload_n 0, 1)) mq_48 ci_48 (List.mem_append_right _ (List.mem_append_right _ ((show _ ∈ my_48_2 from List.mem_of_getElem? (i := 15) rfl))))
theorem cd_48_262 : mt_cd 48 262 = some (.getfield 19) := mt_cd_of (q := (262, .getfield 19, 3)) mq_48 ci_48 (List.mem_append_right _ (List.mem_append_right _ ((show _ ∈ my_48_2 from List.mem_of_getElem? (i := 16) rfl))))
theorem cd_48_265 : mt_cd 48 265 = some (.getfield 138) := mt_cd_of (q := (265, .getfield 138, 3)) mq_48 ci_48 (List.mem_append_right _ (List.mem_append_right _ ((show _ ∈ my_48_2 from List.mem_of_getElem? (i := 17) rfl))))
theorem cd_48_268 : mt_cd 48 268 = some (.iload 4) := mt_cd_of (q := (268, .iload 4, 2)) mq_48 ci_48 (List.mem_append_right _ (List.mem_append_right _ ((show _ ∈ my_48_2 from List.mem_of_getElem? (i := 18) rfl))))
theorem cd_48_270 : mt_cd 48 270 = some (.aload_n 0) := mt_cd_of (q := (270, .aload_n 0, 1)) mq_48 ci_48 (List.mem_append_right _ (List.mem_append_right _ ((show _ ∈ my_48_2 from List.mem_of_getElem? (i := 19) rfl))))
theorem cd_48_271 : mt_cd 48 271 = some (.iload_n 1) := mt_cd_of (q := (271, .iload_n 1, 1)) mq_48 ci_48 (List.mem_append_right _ (List.mem_append_right _ ((show _ ∈ my_48_2 from List.mem_of_getElem? (i := 20) rfl))))
theorem cd_48_272 : mt_cd 48 272 = some (.iconst 1) := mt_cd_of (q := (272, .iconst 1, 1)) mq_48 ci_48 (List.mem_append_right _ (List.mem_append_right _ ((show _ ∈ my_48_2 from List.mem_of_getElem? (i := 21) rfl))))
theorem cd_48_273 : mt_cd 48 273 = some (.iadd) := mt_cd_of (q := (273, .iadd, 1)) mq_48 ci_48 (List.mem_append_right _ (List.mem_append_right _ ((show _ ∈ my_48_2 from List.mem_of_getElem? (i := 22) rfl))))
theorem cd_48_274 : mt_cd 48 274 = some (.invokevirtual 113) := mt_cd_of (q := (274, .invokevirtual 113, 3)) mq_48 ci_48 (List.mem_append_right _ (List.mem_append_right _ ((show _ ∈ my_48_2 from List.mem_of_getElem? (i := 23) rfl))))
theorem cd_48_277 : mt_cd 48 277 = some (.iastore) := mt_cd_of (q := (277, .iastore, 1)) mq_48 ci_48 (List.mem_append_right _ (List.mem_append_right _ ((show _ ∈ my_48_2 from List.mem_of_getElem? (i := 24) rfl))))
theorem cd_48_278 : mt_cd 48 278 = some (.iload_n 3) := mt_cd_of (q := (278, .iload_n 3, 1)) mq_48 ci_48 (List.mem_append_right _ (List.mem_append_right _ ((show _ ∈ my_48_2 from List.mem_of_getElem? (i := 25) rfl))))
theorem cd_48_279 : mt_cd 48 279 = some (.ifCond .ne 9) := mt_cd_of (q := (279, .ifCond .ne 9, 3)) mq_48 ci_48 (List.mem_append_right _ (List.mem_append_right _ ((show _ ∈ my_48_2 from List.mem_of_getElem? (i := 26) rfl))))
theorem cd_48_282 : mt_cd 48 282 = some (.iload_n 2) := mt_cd_of (q := (282, .iload_n 2, 1)) mq_48 ci_48 (List.mem_append_right _ (List.mem_append_right _ ((show _ ∈ my_48_2 from List.mem_of_getElem? (i := 27) rfl))))
theorem cd_48_283 : mt_cd 48 283 = some (.bipush 17) := mt_cd_of (q := (283, .bipush 17, 2)) mq_48 ci_48 (List.mem_append_right _ (List.mem_append_right _ ((show _ ∈ my_48_2 from List.mem_of_getElem? (i := 28) rfl))))
theorem cd_48_285 : mt_cd 48 285 = some (.if_icmp .ne 20) := mt_cd_of (q := (285, .if_icmp .ne 20, 3)) mq_48 ci_48 (List.mem_append_right _ (List.mem_append_right _ ((show _ ∈ my_48_2 from List.mem_of_getElem? (i := 29) rfl))))
theorem cd_48_288 : mt_cd 48 288 = some (.aload_n 0) := mt_cd_of (q := (288, .aload_n 0, 1)) mq_48 ci_48 (List.mem_append_right _ (List.mem_append_right _ ((show _ ∈ my_48_2 from List.mem_of_getElem? (i := 30) rfl))))
theorem cd_48_289 : mt_cd 48 289 = some (.getfield 19) := mt_cd_of (q := (289, .getfield 19, 3)) mq_48 ci_48 (List.mem_append_right _ (List.mem_append_right _ ((show _ ∈ my_48_2 from List.mem_of_getElem? (i := 31) rfl))))
theorem cd_48_292 : mt_cd 48 292 = some (.getfield 141) := mt_cd_of (q := (292, .getfield 141, 3)) mq_48 ci_48 (List.mem_append_right _ (List.mem_append_right _ ((show _ ∈ my_48_2 from List.mem_of_getElem? (i := 32) rfl))))
theorem cd_48_295 : mt_cd 48 295 = some (.iload 4) := mt_cd_of (q := (295, .iload 4, 2)) mq_48 ci_48 (List.mem_append_right _ (List.mem_append_right _ ((show _ ∈ my_48_2 from List.mem_of_getElem? (i := 33) rfl))))
theorem cd_48_297 : mt_cd 48 297 = some (.aload_n 0) := mt_cd_of (q := (297, .aload_n 0, 1)) mq_48 ci_48 (List.mem_append_right _ (List.mem_append_right _ ((show _ ∈ my_48_2 from List.mem_of_getElem? (i := 34) rfl))))
theorem cd_48_298 : mt_cd 48 298 = some (.iload_n 1) := mt_cd_of (q := (298, .iload_n 1, 1)) mq_48 ci_48 (List.mem_append_right _ (List.mem_append_right _ ((show _ ∈ my_48_2 from List.mem_of_getElem? (i := 35) rfl))))
theorem cd_48_299 : mt_cd 48 299 = some (.iconst 1) := mt_cd_of (q := (299, .iconst 1, 1)) mq_48 ci_48 (List.mem_append_right _ (List.mem_append_right _ ((show _ ∈ my_48_2 from List.mem_of_getElem? (i := 36) rfl))))
theorem cd_48_300 : mt_cd 48 300 = some (.iadd) := mt_cd_of (q := (300, .iadd, 1)) mq_48 ci_48 (List.mem_append_right _ (List.mem_append_right _ ((show _ ∈ my_48_2 from List.mem_of_getElem? (i := 37) rfl))))
theorem cd_48_301 : mt_cd 48 301 = some (.invokevirtual 113) := mt_cd_of (q := (301, .invokevirtual 113, 3)) mq_48 ci_48 (List.mem_append_right _ (List.mem_append_right _ ((show _ ∈ my_48_2 from List.mem_of_getElem? (i := 38) rfl))))
theorem cd_48_304 : mt_cd 48 304 = some (.iastore) := mt_cd_of (q := (304, .iastore, 1)) mq_48 ci_48 (List.mem_append_right _ (List.mem_append_right _ ((show _ ∈ my_48_2 from List.mem_of_getElem? (i := 39) rfl))))
theorem cd_48_305 : mt_cd 48 305 = some (.aload_n 0) := mt_cd_of (q := (305, .aload_n 0, 1)) mq_48 ci_48 (List.mem_append_right _ (List.mem_append_right _ ((show _ ∈ my_48_2 from List.mem_of_getElem? (i := 40) rfl))))
theorem cd_48_306 : mt_cd 48 306 = some (.getfield 19) := mt_cd_of (q := (306, .getfield 19, 3)) mq_48 ci_48 (List.mem_append_right _ (List.mem_append_right _ ((show _ ∈ my_48_2 from List.mem_of_getElem? (i := 41) rfl))))
theorem cd_48_309 : mt_cd 48 309 = some (.getfield 144) := mt_cd_of (q := (309, .getfield 144, 3)) mq_48 ci_48 (List.mem_append_right _ (List.mem_append_right _ ((show _ ∈ my_48_2 from List.mem_of_getElem? (i := 42) rfl))))
theorem cd_48_312 : mt_cd 48 312 = some (.iload 4) := mt_cd_of (q := (312, .iload 4, 2)) mq_48 ci_48 (List.mem_append_right _ (List.mem_append_right _ ((show _ ∈ my_48_2 from List.mem_of_getElem? (i := 43) rfl))))
theorem cd_48_314 : mt_cd 48 314 = some (.aload_n 0) := mt_cd_of (q := (314, .aload_n 0, 1)) mq_48 ci_48 (List.mem_append_right _ (List.mem_append_right _ ((show _ ∈ my_48_2 from List.mem_of_getElem? (i := 44) rfl))))
theorem cd_48_315 : mt_cd 48 315 = some (.getfield 19) := mt_cd_of (q := (315, .getfield 19, 3)) mq_48 ci_48 (List.mem_append_right _ (List.mem_append_right _ ((show _ ∈ my_48_2 from List.mem_of_getElem? (i := 45) rfl))))
theorem cd_48_318 : mt_cd 48 318 = some (.getfield 87) := mt_cd_of (q := (318, .getfield 87, 3)) mq_48 ci_48 (List.mem_append_right _ (List.mem_append_right _ ((show _ ∈ my_48_2 from List.mem_of_getElem? (i := 46) rfl))))
theorem cd_48_321 : mt_cd 48 321 = some (.iastore) := mt_cd_of (q := (321, .iastore, 1)) mq_48 ci_48 (List.mem_append_right _ (List.mem_append_right _ ((show _ ∈ my_48_2 from List.mem_of_getElem? (i := 47) rfl))))
theorem cd_48_322 : mt_cd 48 322 = some (.iload 4) := mt_cd_of (q := (322, .iload 4, 2)) mq_48 ci_48 (List.mem_append_right _ (List.mem_append_right _ ((show _ ∈ my_48_2 from List.mem_of_getElem? (i := 48) rfl))))
theorem cd_48_324 : mt_cd 48 324 = some (.ireturn) := mt_cd_of (q := (324, .ireturn, 1)) mq_48 ci_48 (List.mem_append_right _ (List.mem_append_right _ ((show _ ∈ my_48_2 from List.mem_of_getElem? (i := 49) rfl))))
theorem b_48_0 {d : Nat} {Q : (Option Value ⊕ Nat) → mi_H → Prop} (n sl : Nat) (f : Nat → mi_C) {l1 : Nat} {l2 : Int32} {o3 : Option Value} {o4 : Option Value} {o5 : Option Value} (h6 : 100 < l2 → mi_W d 48 11 [some (.ref l1), some (.int l2), o3, o4, o5] [.ref l1] (n, sl, f) Q) (h7 : ¬ (100 < l2) → mi_W d 48 7 [some (.ref l1), some (.int l2), o3, o4, o5] [.ref l1] (n, sl, f) Q) : mi_W d 48 0 [some (.ref l1), some (.int l2), o3, o4, o5] [] (n, sl, f) Q := by
  refine w_aload_n cd_48_0 rfl ?_
  refine w_iload_n cd_48_1 rfl ?_
  refine w_bipush (v := 100) cd_48_2 (by decide) ?_
  exact w_if_icmpgt cd_48_4 (by decide) h6 h7
theorem b_48_7 {d : Nat} {Q : (Option Value ⊕ Nat) → mi_H → Prop} (n sl : Nat) (f : Nat → mi_C) {l1 : Nat} {l2 : Int32} {o3 : Option Value} {o4 : Option Value} {o5 : Option Value} {s6 : Nat} (h7 : mi_W d 48 12 [some (.ref l1), some (.int l2), o3, o4, o5] [.int 1, .ref s6] (n, sl, f) Q) : mi_W d 48 7 [some (.ref l1), some (.int l2), o3, o4, o5] [.ref s6] (n, sl, f) Q := by
  refine w_iconst (v := 1) cd_48_7 (by decide) ?_
  exact w_goto cd_48_8 (by decide) h7
theorem b_48_11 {d : Nat} {Q : (Option Value ⊕ Nat) → mi_H → Prop} (n sl : Nat) (f : Nat → mi_C) {l1 : Nat} {l2 : Int32} {o3 : Option Value} {o4 : Option Value} {o5 : Option Value} {s6 : Nat} (h7 : mi_W d 48 12 [some (.ref l1), some (.int l2), o3, o4, o5] [.int 0, .ref s6] (n, sl, f) Q) : mi_W d 48 11 [some (.ref l1), some (.int l2), o3, o4, o5] [.ref s6] (n, sl, f) Q := by
  refine w_iconst (v := 0) cd_48_11 (by decide) ?_
  exact h7
theorem b_48_12 {d : Nat} {Q : (Option Value ⊕ Nat) → mi_H → Prop} (n sl : Nat) (f : Nat → mi_C) {l1 : Nat} {l2 : Int32} {o3 : Option Value} {o4 : Option Value} {o5 : Option Value} {s6 : Int32} {s7 : Nat} {fs8 : List Value} (h9 : f s7 = .inr (3, fs8)) (h10 : s7 < n) (h11 : mi_W d 38 0 (mi_en 2 [.ref s7, .int s6]) [] (n, sl, f) (mi_Kc d 48 12 [some (.ref l1), some (.int l2), o3, o4, o5] [] Q)) : mi_W (d + 1) 48 12 [some (.ref l1), some (.int l2), o3, o4, o5] [.int s6, .ref s7] (n, sl, f) Q := by
  exact w_invokevirtual cd_48_12 (show mt_m 3 70 = some (38, 0) by decide +kernel) (rest := []) rfl (as := [.ref s7, .int s6]) rfl h9 (Or.inl h10) ⟨Nat.le_of_ble_eq_true rfl, Nat.le_of_ble_eq_true rfl, Nat.le_of_ble_eq_true rfl⟩ h11
theorem b_48_15 {d : Nat} {Q : (Option Value ⊕ Nat) → mi_H → Prop} (n sl : Nat) (f : Nat → mi_C) {l1 : Nat} {l2 : Int32} {o3 : Option Value} {o4 : Option Value} {o5 : Option Value} {fs6 : List Value} {x9 : Nat} {fs11 : List Value} {x14 : Int32} (h7 : f l1 = .inr (3, fs6)) (h8 : l1 < n) (h10 : fs6[0]? = some (.ref x9)) (h12 : f x9 = .inr (1, fs11)) (h13 : x9 < n) (h15 : fs11[2]? = some (.int x14)) (h16 : ¬ x14 = 24 → mi_W d 48 50 [some (.ref l1), some (.int l2), o3, o4, o5] [] (n, sl, f) Q) (h17 : ¬ (¬ x14 = 24) → mi_W d 48 27 [some (.ref l1), some (.int l2), o3, o4, o5] [] (n, sl, f) Q) : mi_W d 48 15 [some (.ref l1), some (.int l2), o3, o4, o5] [] (n, sl, f) Q := by
  refine w_aload_n cd_48_15 rfl ?_
  refine w_getfield cd_48_16 (show mt_f 3 15 = some (3, 0) by decide +kernel) h7 h8 h10 ?_
  refine w_getfield cd_48_19 (show mt_f 3 67 = some (1, 2) by decide +kernel) h12 h13 h15 ?_
  refine w_bipush (v := 24) cd_48_22 (by decide) ?_
  exact w_if_icmpne cd_48_24 (by decide) h16 h17
theorem b_48_27 {d : Nat} {Q : (Option Value ⊕ Nat) → mi_H → Prop} (n sl : Nat) (f : Nat → mi_C) {l1 : Nat} {l2 : Int32} {o3 : Option Value} {o4 : Option Value} {o5 : Option Value} {fs6 : List Value} {x9 : Nat} {fs11 : List Value} (h7 : f l1 = .inr (3, fs6)) (h8 : l1 < n) (h10 : fs6[0]? = some (.ref x9)) (h12 : f x9 = .inr (1, fs11)) (h13 : x9 < n) (h14 : mi_W d 24 0 (mi_en 2 [.ref x9]) [] (n, sl, f) (mi_Kc d 48 31 [some (.ref l1), some (.int l2), o3, o4, o5] [] Q)) : mi_W (d + 1) 48 27 [some (.ref l1), some (.int l2), o3, o4, o5] [] (n, sl, f) Q := by
  refine w_aload_n cd_48_27 rfl ?_
  refine w_getfield cd_48_28 (show mt_f 3 15 = some (3, 0) by decide +kernel) h7 h8 h10 ?_
  exact w_invokevirtual cd_48_31 (show mt_m 3 84 = some (24, 0) by decide +kernel) (rest := []) rfl (as := [.ref x9]) rfl h12 (Or.inl h13) ⟨Nat.le_of_ble_eq_true rfl, Nat.le_of_ble_eq_true rfl, Nat.le_of_ble_eq_true rfl⟩ h14
theorem b_48_34 {d : Nat} {Q : (Option Value ⊕ Nat) → mi_H → Prop} (n sl : Nat) (f : Nat → mi_C) {l1 : Nat} {l2 : Int32} {o3 : Option Value} {o4 : Option Value} {o5 : Option Value} {fs6 : List Value} (h7 : f l1 = .inr (3, fs6)) (h8 : l1 < n) (h9 : mi_W d 48 0 (mi_en 5 [.ref l1, .int (l2 + 1)]) [] (n, sl, f) (mi_Kc d 48 38 [some (.ref l1), some (.int l2), o3, o4, o5] [] Q)) : mi_W (d + 1) 48 34 [some (.ref l1), some (.int l2), o3, o4, o5] [] (n, sl, f) Q := by
  refine w_aload_n cd_48_34 rfl ?_
  refine w_iload_n cd_48_35 rfl ?_
  refine w_iconst (v := 1) cd_48_36 (by decide) ?_
  refine w_iadd cd_48_37 ?_
  exact w_invokevirtual cd_48_38 (show mt_m 3 113 = some (48, 0) by decide +kernel) (rest := []) rfl (as := [.ref l1, .int (l2 + 1)]) rfl h7 (Or.inl h8) ⟨Nat.le_of_ble_eq_true rfl, Nat.le_of_ble_eq_true rfl, Nat.le_of_ble_eq_true rfl⟩ h9
theorem b_48_41 {d : Nat} {Q : (Option Value ⊕ Nat) → mi_H → Prop} (n sl : Nat) (f : Nat → mi_C) {l1 : Nat} {l2 : Int32} {o3 : Option Value} {o4 : Option Value} {o5 : Option Value} {s6 : Int32} {fs7 : List Value} (h8 : f l1 = .inr (3, fs7)) (h9 : l1 < n) (h10 : mi_W d 39 0 (mi_en 2 [.ref l1, .int 25]) [] (n, sl, f) (mi_Kc d 48 45 [some (.ref l1), some (.int l2), some (.int s6), o4, o5] [] Q)) : mi_W (d + 1) 48 41 [some (.ref l1), some (.int l2), o3, o4, o5] [.int s6] (n, sl, f) Q := by
  refine w_istore_n (ls' := [some (.ref l1), some (.int l2), some (.int s6), o4, o5]) cd_48_41 (Nat.le_of_ble_eq_true rfl) rfl ?_
  refine w_aload_n cd_48_42 rfl ?_
  refine w_bipush (v := 25) cd_48_43 (by decide) ?_
  exact w_invokevirtual cd_48_45 (show mt_m 3 99 = some (39, 0) by decide +kernel) (rest := []) rfl (as := [.ref l1, .int 25]) rfl h8 (Or.inl h9) ⟨Nat.le_of_ble_eq_true rfl, Nat.le_of_ble_eq_true rfl, Nat.le_of_ble_eq_true rfl⟩ h10
theorem b_48_48 {d : Nat} {Q : (Option Value ⊕ Nat) → mi_H → Prop} (n sl : Nat) (f : Nat → mi_C) {l1 : Nat} {l2 : Int32} {l3 : Int32} {o4 : Option Value} {o5 : Option Value} (h6 : Q (.inl (some (.int l3))) (n, sl, f)) : mi_W d 48 48 [some (.ref l1), some (.int l2), some (.int l3), o4, o5] [] (n, sl, f) Q := by
  refine w_iload_n cd_48_48 rfl ?_
  exact w_ireturn_i cd_48_49 (by decide +kernel) h6
theorem b_48_50 {d : Nat} {Q : (Option Value ⊕ Nat) → mi_H → Prop} (n sl : Nat) (f : Nat → mi_C) {l1 : Nat} {l2 : Int32} {o3 : Option Value} {o4 : Option Value} {o5 : Option Value} {fs6 : List Value} {x9 : Nat} {fs11 : List Value} {x14 : Int32} (h7 : f l1 = .inr (3, fs6)) (h8 : l1 < n) (h10 : fs6[0]? = some (.ref x9)) (h12 : f x9 = .inr (1, fs11)) (h13 : x9 < n) (h15 : fs11[2]? = some (.int x14)) (h16 : x14 < 28 → mi_W d 48 74 [some (.ref l1), some (.int l2), some (.int x14), o4, o5] [] (n, sl, f) Q) (h17 : ¬ (x14 < 28) → mi_W d 48 64 [some (.ref l1), some (.int l2), some (.int x14), o4, o5] [] (n, sl, f) Q) : mi_W d 48 50 [some (.ref l1), some (.int l2), o3, o4, o5] [] (n, sl, f) Q := by
  refine w_aload_n cd_48_50 rfl ?_
  refine w_getfield cd_48_51 (show mt_f 3 15 = some (3, 0) by decide +kernel) h7 h8 h10 ?_
  refine w_getfield cd_48_54 (show mt_f 3 67 = some (1, 2) by decide +kernel) h12 h13 h15 ?_
  refine w_istore_n (ls' := [some (.ref l1), some (.int l2), some (.int x14), o4, o5]) cd_48_57 (Nat.le_of_ble_eq_true rfl) rfl ?_
  refine w_iload_n cd_48_58 rfl ?_
  refine w_bipush (v := 28) cd_48_59 (by decide) ?_
  exact w_if_icmplt cd_48_61 (by decide) h16 h17
theorem b_48_64 {d : Nat} {Q : (Option Value ⊕ Nat) → mi_H → Prop} (n sl : Nat) (f : Nat → mi_C) {l1 : Nat} {l2 : Int32} {l3 : Int32} {o4 : Option Value} {o5 : Option Value} (h6 : 31 < l3 → mi_W d 48 74 [some (.ref l1), some (.int l2), some (.int l3), o4, o5] [] (n, sl, f) Q) (h7 : ¬ (31 < l3) → mi_W d 48 70 [some (.ref l1), some (.int l2), some (.int l3), o4, o5] [] (n, sl, f) Q) : mi_W d 48 64 [some (.ref l1), some (.int l2), some (.int l3), o4, o5] [] (n, sl, f) Q := by
  refine w_iload_n cd_48_64 rfl ?_
  refine w_bipush (v := 31) cd_48_65 (by decide) ?_
  exact w_if_icmpgt cd_48_67 (by decide) h6 h7
theorem b_48_70 {d : Nat} {Q : (Option Value ⊕ Nat) → mi_H → Prop} (n sl : Nat) (f : Nat → mi_C) {l1 : Nat} {l2 : Int32} {l3 : Int32} {o4 : Option Value} {o5 : Option Value} (h6 : mi_W d 48 75 [some (.ref l1), some (.int l2), some (.int l3), o4, o5] [.int 1] (n, sl, f) Q) : mi_W d 48 70 [some (.ref l1), some (.int l2), some (.int l3), o4, o5] [] (n, sl, f) Q := by
  refine w_iconst (v := 1) cd_48_70 (by decide) ?_
  exact w_goto cd_48_71 (by decide) h6
theorem b_48_74 {d : Nat} {Q : (Option Value ⊕ Nat) → mi_H → Prop} (n sl : Nat) (f : Nat → mi_C) {l1 : Nat} {l2 : Int32} {l3 : Int32} {o4 : Option Value} {o5 : Option Value} (h6 : mi_W d 48 75 [some (.ref l1), some (.int l2), some (.int l3), o4, o5] [.int 0] (n, sl, f) Q) : mi_W d 48 74 [some (.ref l1), some (.int l2), some (.int l3), o4, o5] [] (n, sl, f) Q := by
  refine w_iconst (v := 0) cd_48_74 (by decide) ?_
  exact h6
theorem b_48_75 {d : Nat} {Q : (Option Value ⊕ Nat) → mi_H → Prop} (n sl : Nat) (f : Nat → mi_C) {l1 : Nat} {l2 : Int32} {l3 : Int32} {o4 : Option Value} {o5 : Option Value} {s6 : Int32} (h7 : l3 = 37 → mi_W d 48 99 [some (.ref l1), some (.int l2), some (.int l3), some (.int s6), o5] [.ref l1] (n, sl, f) Q) (h8 : ¬ (l3 = 37) → mi_W d 48 83 [some (.ref l1), some (.int l2), some (.int l3), some (.int s6), o5] [.ref l1] (n, sl, f) Q) : mi_W d 48 75 [some (.ref l1), some (.int l2), some (.int l3), o4, o5] [.int s6] (n, sl, f) Q := by
  refine w_istore_n (ls' := [some (.ref l1), some (.int l2), some (.int l3), some (.int s6), o5]) cd_48_75 (Nat.le_of_ble_eq_true rfl) rfl ?_
  refine w_aload_n cd_48_76 rfl ?_
  refine w_iload_n cd_48_77 rfl ?_
  refine w_bipush (v := 37) cd_48_78 (by decide) ?_
  exact w_if_icmpeq cd_48_80 (by decide) h7 h8
theorem b_48_83 {d : Nat} {Q : (Option Value ⊕ Nat) → mi_H → Prop} (n sl : Nat) (f : Nat → mi_C) {l1 : Nat} {l2 : Int32} {l3 : Int32} {l4 : Int32} {o5 : Option Value} {s6 : Nat} (h7 : ¬ l4 = (0 : Int32) → mi_W d 48 99 [some (.ref l1), some (.int l2), some (.int l3), some (.int l4), o5] [.ref s6] (n, sl, f) Q) (h8 : ¬ (¬ l4 = (0 : Int32)) → mi_W d 48 87 [some (.ref l1), some (.int l2), some (.int l3), some (.int l4), o5] [.ref s6] (n, sl, f) Q) : mi_W d 48 83 [some (.ref l1), some (.int l2), some (.int l3), some (.int l4), o5] [.ref s6] (n, sl, f) Q := by
  refine w_iload_n cd_48_83 rfl ?_
  exact w_ifne cd_48_84 (by decide) h7 h8
theorem b_48_87 {d : Nat} {Q : (Option Value ⊕ Nat) → mi_H → Prop} (n sl : Nat) (f : Nat → mi_C) {l1 : Nat} {l2 : Int32} {l3 : Int32} {l4 : Int32} {o5 : Option Value} {s6 : Nat} (h7 : l3 < 11 → mi_W d 48 103 [some (.ref l1), some (.int l2), some (.int l3), some (.int l4), o5] [.ref s6] (n, sl, f) Q) (h8 : ¬ (l3 < 11) → mi_W d 48 93 [some (.ref l1), some (.int l2), some (.int l3), some (.int l4), o5] [.ref s6] (n, sl, f) Q) : mi_W d 48 87 [some (.ref l1), some (.int l2), some (.int l3), some (.int l4), o5] [.ref s6] (n, sl, f) Q := by
  refine w_iload_n cd_48_87 rfl ?_
  refine w_bipush (v := 11) cd_48_88 (by decide) ?_
  exact w_if_icmplt cd_48_90 (by decide) h7 h8
theorem b_48_93 {d : Nat} {Q : (Option Value ⊕ Nat) → mi_H → Prop} (n sl : Nat) (f : Nat → mi_C) {l1 : Nat} {l2 : Int32} {l3 : Int32} {l4 : Int32} {o5 : Option Value} {s6 : Nat} (h7 : 17 < l3 → mi_W d 48 103 [some (.ref l1), some (.int l2), some (.int l3), some (.int l4), o5] [.ref s6] (n, sl, f) Q) (h8 : ¬ (17 < l3) → mi_W d 48 99 [some (.ref l1), some (.int l2), some (.int l3), some (.int l4), o5] [.ref s6] (n, sl, f) Q) : mi_W d 48 93 [some (.ref l1), some (.int l2), some (.int l3), some (.int l4), o5] [.ref s6] (n, sl, f) Q := by
  refine w_iload_n cd_48_93 rfl ?_
  refine w_bipush (v := 17) cd_48_94 (by decide) ?_
  exact w_if_icmpgt cd_48_96 (by decide) h7 h8
theorem b_48_99 {d : Nat} {Q : (Option Value ⊕ Nat) → mi_H → Prop} (n sl : Nat) (f : Nat → mi_C) {l1 : Nat} {l2 : Int32} {l3 : Int32} {l4 : Int32} {o5 : Option Value} {s6 : Nat} (h7 : mi_W d 48 104 [some (.ref l1), some (.int l2), some (.int l3), some (.int l4), o5] [.int 1, .ref s6] (n, sl, f) Q) : mi_W d 48 99 [some (.ref l1), some (.int l2), some (.int l3), some (.int l4), o5] [.ref s6] (n, sl, f) Q := by
  refine w_iconst (v := 1) cd_48_99 (by decide) ?_
  exact w_goto cd_48_100 (by decide) h7
theorem b_48_103 {d : Nat} {Q : (Option Value ⊕ Nat) → mi_H → Prop} (n sl : Nat) (f : Nat → mi_C) {l1 : Nat} {l2 : Int32} {l3 : Int32} {l4 : Int32} {o5 : Option Value} {s6 : Nat} (h7 : mi_W d 48 104 [some (.ref l1), some (.int l2), some (.int l3), some (.int l4), o5] [.int 0, .ref s6] (n, sl, f) Q) : mi_W d 48 103 [some (.ref l1), some (.int l2), some (.int l3), some (.int l4), o5] [.ref s6] (n, sl, f) Q := by
  refine w_iconst (v := 0) cd_48_103 (by decide) ?_
  exact h7
theorem b_48_104 {d : Nat} {Q : (Option Value ⊕ Nat) → mi_H → Prop} (n sl : Nat) (f : Nat → mi_C) {l1 : Nat} {l2 : Int32} {l3 : Int32} {l4 : Int32} {o5 : Option Value} {s6 : Int32} {s7 : Nat} {fs8 : List Value} (h9 : f s7 = .inr (3, fs8)) (h10 : s7 < n) (h11 : mi_W d 38 0 (mi_en 2 [.ref s7, .int s6]) [] (n, sl, f) (mi_Kc d 48 104 [some (.ref l1), some (.int l2), some (.int l3), some (.int l4), o5] [] Q)) : mi_W (d + 1) 48 104 [some (.ref l1), some (.int l2), some (.int l3), some (.int l4), o5] [.int s6, .ref s7] (n, sl, f) Q := by
  exact w_invokevirtual cd_48_104 (show mt_m 3 70 = some (38, 0) by decide +kernel) (rest := []) rfl (as := [.ref s7, .int s6]) rfl h9 (Or.inl h10) ⟨Nat.le_of_ble_eq_true rfl, Nat.le_of_ble_eq_true rfl, Nat.le_of_ble_eq_true rfl⟩ h11
theorem b_48_107 {d : Nat} {Q : (Option Value ⊕ Nat) → mi_H → Prop} (n sl : Nat) (f : Nat → mi_C) {l1 : Nat} {l2 : Int32} {l3 : Int32} {l4 : Int32} {o5 : Option Value} {fs6 : List Value} (h7 : f l1 = .inr (3, fs6)) (h8 : l1 < n) (h9 : mi_W d 40 0 (mi_en 2 [.ref l1]) [] (n, sl, f) (mi_Kc d 48 108 [some (.ref l1), some (.int l2), some (.int l3), some (.int l4), o5] [] Q)) : mi_W (d + 1) 48 107 [some (.ref l1), some (.int l2), some (.int l3), some (.int l4), o5] [] (n, sl, f) Q := by
  refine w_aload_n cd_48_107 rfl ?_
  exact w_invokevirtual cd_48_108 (show mt_m 3 102 = some (40, 0) by decide +kernel) (rest := []) rfl (as := [.ref l1]) rfl h7 (Or.inl h8) ⟨Nat.le_of_ble_eq_true rfl, Nat.le_of_ble_eq_true rfl, Nat.le_of_ble_eq_true rfl⟩ h9
theorem b_48_111 {d : Nat} {Q : (Option Value ⊕ Nat) → mi_H → Prop} (n sl : Nat) (f : Nat → mi_C) {l1 : Nat} {l2 : Int32} {l3 : Int32} {l4 : Int32} {o5 : Option Value} {s6 : Int32} (h7 : ¬ l3 = 11 → mi_W d 48 158 [some (.ref l1), some (.int l2), some (.int l3), some (.int l4), some (.int s6)] [] (n, sl, f) Q) (h8 : ¬ (¬ l3 = 11) → mi_W d 48 119 [some (.ref l1), some (.int l2), some (.int l3), some (.int l4), some (.int s6)] [] (n, sl, f) Q) : mi_W d 48 111 [some (.ref l1), some (.int l2), some (.int l3), some (.int l4), o5] [.int s6] (n, sl, f) Q := by
  refine w_istore (ls' := [some (.ref l1), some (.int l2), some (.int l3), some (.int l4), some (.int s6)]) cd_48_111 (Nat.le_of_ble_eq_true rfl) rfl ?_
  refine w_iload_n cd_48_113 rfl ?_
  refine w_bipush (v := 11) cd_48_114 (by decide) ?_
  exact w_if_icmpne cd_48_116 (by decide) h7 h8
theorem b_48_119 {d : Nat} {Q : (Option Value ⊕ Nat) → mi_H → Prop} (n sl : Nat) (f : Nat → mi_C) {l1 : Nat} {l2 : Int32} {l3 : Int32} {l4 : Int32} {l5 : Int32} {fs6 : List Value} {x9 : Nat} {fs11 : List Value} {x14 : Nat} {fs16 : List Value} {x19 : Nat} {fs21 : List Value} (h7 : f l1 = .inr (3, fs6)) (h8 : l1 < n) (h10 : fs6[1]? = some (.ref x9)) (h12 : f x9 = .inr (2, fs11)) (h13 : x9 < n) (h15 : fs11[4]? = some (.ref x14)) (h17 : f l1 = .inr (3, fs16)) (h18 : l1 < n) (h20 : fs16[2]? = some (.ref x19)) (h22 : f l1 = .inr (3, fs21)) (h23 : l1 < n) (h24 : mi_W d 43 0 (mi_en 3 [.ref l1, .ref x19]) [] (n, sl, f) (mi_Kc d 48 133 [some (.ref l1), some (.int l2), some (.int l3), some (.int l4), some (.int l5)] [.int l5, .ref x14] Q)) : mi_W (d + 1) 48 119 [some (.ref l1), some (.int l2), some (.int l3), some (.int l4), some (.int l5)] [] (n, sl, f) Q := by
  refine w_aload_n cd_48_119 rfl ?_
  refine w_getfield cd_48_120 (show mt_f 3 19 = some (3, 1) by decide +kernel) h7 h8 h10 ?_
  refine w_getfield cd_48_123 (show mt_f 3 128 = some (2, 4) by decide +kernel) h12 h13 h15 ?_
  refine w_iload cd_48_126 rfl ?_
  refine w_aload_n cd_48_128 rfl ?_
  refine w_aload_n cd_48_129 rfl ?_
  refine w_getfield cd_48_130 (show mt_f 3 34 = some (3, 2) by decide +kernel) h17 h18 h20 ?_
  exact w_invokevirtual cd_48_133 (show mt_m 3 131 = some (43, 0) by decide +kernel) (rest := [.int l5, .ref x14]) rfl (as := [.ref l1, .ref x19]) rfl h22 (Or.inl h23) ⟨Nat.le_of_ble_eq_true rfl, Nat.le_of_ble_eq_true rfl, Nat.le_of_ble_eq_true rfl⟩ h24
theorem b_48_136 {d : Nat} {Q : (Option Value ⊕ Nat) → mi_H → Prop} (n sl : Nat) (f : Nat → mi_C) {l1 : Nat} {l2 : Int32} {l3 : Int32} {l4 : Int32} {l5 : Int32} {s6 : Int32} {s7 : Int32} {s8 : Nat} (m9 i9 : Nat) (g9 : Nat → Int32) {fs13 : List Value} {x16 : Nat} {fs18 : List Value} {x21 : Nat} {fs23 : List Value} {x26 : Nat} {fs28 : List Value} (h10 : f s8 = .inl (0, m9, .inl g9)) (h11 : s8 < n) (h12 : mi_ix s7 m9 i9) (h14 : (va_up f s8 (.inl (0, m9, .inl (upd g9 i9 s6)))) l1 = .inr (3, fs13)) (h15 : l1 < n) (h17 : fs13[1]? = some (.ref x16)) (h19 : (va_up f s8 (.inl (0, m9, .inl (upd g9 i9 s6)))) x16 = .inr (2, fs18)) (h20 : x16 < n) (h22 : fs18[5]? = some (.ref x21)) (h24 : (va_up f s8 (.inl (0, m9, .inl (upd g9 i9 s6)))) l1 = .inr (3, fs23)) (h25 : l1 < n) (h27 : fs23[3]? = some (.ref x26)) (h29 : (va_up f s8 (.inl (0, m9, .inl (upd g9 i9 s6)))) l1 = .inr (3, fs28)) (h30 : l1 < n) (h31 : mi_W d 43 0 (mi_en 3 [.ref l1, .ref x26]) [] (n, sl, (va_up f s8 (.inl (0, m9, .inl (upd g9 i9 s6))))) (mi_Kc d 48 151 [some (.ref l1), some (.int l2), some (.int l3), some (.int l4), some (.int l5)] [.int l5, .ref x21] Q)) : mi_W (d + 1) 48 136 [some (.ref l1), some (.int l2), some (.int l3), some (.int l4), some (.int l5)] [.int s6, .int s7, .ref s8] (n, sl, f) Q := by
  refine w_iastore cd_48_136 h10 h11 h12 ?_
  refine w_aload_n cd_48_137 rfl ?_
  refine w_getfield cd_48_138 (show mt_f 3 19 = some (3, 1) by decide +kernel) h14 h15 h17 ?_
  refine w_getfield cd_48_141 (show mt_f 3 151 = some (2, 5) by decide +kernel) h19 h20 h22 ?_
  refine w_iload cd_48_144 rfl ?_
  refine w_aload_n cd_48_146 rfl ?_
  refine w_aload_n cd_48_147 rfl ?_
  refine w_getfield cd_48_148 (show mt_f 3 38 = some (3, 3) by decide +kernel) h24 h25 h27 ?_
  exact w_invokevirtual cd_48_151 (show mt_m 3 131 = some (43, 0) by decide +kernel) (rest := [.int l5, .ref x21]) rfl (as := [.ref l1, .ref x26]) rfl h29 (Or.inl h30) ⟨Nat.le_of_ble_eq_true rfl, Nat.le_of_ble_eq_true rfl, Nat.le_of_ble_eq_true rfl⟩ h31
theorem b_48_154 {d : Nat} {Q : (Option Value ⊕ Nat) → mi_H → Prop} (n sl : Nat) (f : Nat → mi_C) {l1 : Nat} {l2 : Int32} {l3 : Int32} {l4 : Int32} {l5 : Int32} {s6 : Int32} {s7 : Int32} {s8 : Nat} (m9 i9 : Nat) (g9 : Nat → Int32) (h10 : f s8 = .inl (0, m9, .inl g9)) (h11 : s8 < n) (h12 : mi_ix s7 m9 i9) (h13 : mi_W d 48 278 [some (.ref l1), some (.int l2), some (.int l3), some (.int l4), some (.int l5)] [] (n, sl, (va_up f s8 (.inl (0, m9, .inl (upd g9 i9 s6))))) Q) : mi_W d 48 154 [some (.ref l1), some (.int l2), some (.int l3), some (.int l4), some (.int l5)] [.int s6, .int s7, .ref s8] (n, sl, f) Q := by
  refine w_iastore cd_48_154 h10 h11 h12 ?_
  exact w_goto cd_48_155 (by decide) h13
theorem b_48_158 {d : Nat} {Q : (Option Value ⊕ Nat) → mi_H → Prop} (n sl : Nat) (f : Nat → mi_C) {l1 : Nat} {l2 : Int32} {l3 : Int32} {l4 : Int32} {l5 : Int32} (h6 : ¬ l3 = 13 → mi_W d 48 181 [some (.ref l1), some (.int l2), some (.int l3), some (.int l4), some (.int l5)] [] (n, sl, f) Q) (h7 : ¬ (¬ l3 = 13) → mi_W d 48 164 [some (.ref l1), some (.int l2), some (.int l3), some (.int l4), some (.int l5)] [] (n, sl, f) Q) : mi_W d 48 158 [some (.ref l1), some (.int l2), some (.int l3), some (.int l4), some (.int l5)] [] (n, sl, f) Q := by
  refine w_iload_n cd_48_158 rfl ?_
  refine w_bipush (v := 13) cd_48_159 (by decide) ?_
  exact w_if_icmpne cd_48_161 (by decide) h6 h7
theorem b_48_164 {d : Nat} {Q : (Option Value ⊕ Nat) → mi_H → Prop} (n sl : Nat) (f : Nat → mi_C) {l1 : Nat} {l2 : Int32} {l3 : Int32} {l4 : Int32} {l5 : Int32} {fs6 : List Value} {x9 : Nat} {fs11 : List Value} {x14 : Nat} {fs16 : List Value} (h7 : f l1 = .inr (3, fs6)) (h8 : l1 < n) (h10 : fs6[1]? = some (.ref x9)) (h12 : f x9 = .inr (2, fs11)) (h13 : x9 < n) (h15 : fs11[4]? = some (.ref x14)) (h17 : f l1 = .inr (3, fs16)) (h18 : l1 < n) (h19 : mi_W d 49 0 (mi_en 5 [.ref l1]) [] (n, sl, f) (mi_Kc d 48 174 [some (.ref l1), some (.int l2), some (.int l3), some (.int l4), some (.int l5)] [.int l5, .ref x14] Q)) : mi_W (d + 1) 48 164 [some (.ref l1), some (.int l2), some (.int l3), some (.int l4), some (.int l5)] [] (n, sl, f) Q := by
  refine w_aload_n cd_48_164 rfl ?_
  refine w_getfield cd_48_165 (show mt_f 3 19 = some (3, 1) by decide +kernel) h7 h8 h10 ?_
  refine w_getfield cd_48_168 (show mt_f 3 128 = some (2, 4) by decide +kernel) h12 h13 h15 ?_
  refine w_iload cd_48_171 rfl ?_
  refine w_aload_n cd_48_173 rfl ?_
  exact w_invokevirtual cd_48_174 (show mt_m 3 157 = some (49, 0) by decide +kernel) (rest := [.int l5, .ref x14]) rfl (as := [.ref l1]) rfl h17 (Or.inl h18) ⟨Nat.le_of_ble_eq_true rfl, Nat.le_of_ble_eq_true rfl, Nat.le_of_ble_eq_true rfl⟩ h19
theorem b_48_177 {d : Nat} {Q : (Option Value ⊕ Nat) → mi_H → Prop} (n sl : Nat) (f : Nat → mi_C) {l1 : Nat} {l2 : Int32} {l3 : Int32} {l4 : Int32} {l5 : Int32} {s6 : Int32} {s7 : Int32} {s8 : Nat} (m9 i9 : Nat) (g9 : Nat → Int32) (h10 : f s8 = .inl (0, m9, .inl g9)) (h11 : s8 < n) (h12 : mi_ix s7 m9 i9) (h13 : mi_W d 48 278 [some (.ref l1), some (.int l2), some (.int l3), some (.int l4), some (.int l5)] [] (n, sl, (va_up f s8 (.inl (0, m9, .inl (upd g9 i9 s6))))) Q) : mi_W d 48 177 [some (.ref l1), some (.int l2), some (.int l3), some (.int l4), some (.int l5)] [.int s6, .int s7, .ref s8] (n, sl, f) Q := by
  refine w_iastore cd_48_177 h10 h11 h12 ?_
  exact w_goto cd_48_178 (by decide) h13
theorem b_48_181 {d : Nat} {Q : (Option Value ⊕ Nat) → mi_H → Prop} (n sl : Nat) (f : Nat → mi_C) {l1 : Nat} {l2 : Int32} {l3 : Int32} {l4 : Int32} {l5 : Int32} (h6 : ¬ l3 = 14 → mi_W d 48 208 [some (.ref l1), some (.int l2), some (.int l3), some (.int l4), some (.int l5)] [] (n, sl, f) Q) (h7 : ¬ (¬ l3 = 14) → mi_W d 48 187 [some (.ref l1), some (.int l2), some (.int l3), some (.int l4), some (.int l5)] [] (n, sl, f) Q) : mi_W d 48 181 [some (.ref l1), some (.int l2), some (.int l3), some (.int l4), some (.int l5)] [] (n, sl, f) Q := by
  refine w_iload_n cd_48_181 rfl ?_
  refine w_bipush (v := 14) cd_48_182 (by decide) ?_
  exact w_if_icmpne cd_48_184 (by decide) h6 h7
theorem b_48_187 {d : Nat} {Q : (Option Value ⊕ Nat) → mi_H → Prop} (n sl : Nat) (f : Nat → mi_C) {l1 : Nat} {l2 : Int32} {l3 : Int32} {l4 : Int32} {l5 : Int32} {fs6 : List Value} {x9 : Nat} {fs11 : List Value} {x14 : Nat} {fs16 : List Value} {x19 : Nat} {fs21 : List Value} (h7 : f l1 = .inr (3, fs6)) (h8 : l1 < n) (h10 : fs6[1]? = some (.ref x9)) (h12 : f x9 = .inr (2, fs11)) (h13 : x9 < n) (h15 : fs11[4]? = some (.ref x14)) (h17 : f l1 = .inr (3, fs16)) (h18 : l1 < n) (h20 : fs16[5]? = some (.ref x19)) (h22 : f l1 = .inr (3, fs21)) (h23 : l1 < n) (h24 : mi_W d 43 0 (mi_en 3 [.ref l1, .ref x19]) [] (n, sl, f) (mi_Kc d 48 201 [some (.ref l1), some (.int l2), some (.int l3), some (.int l4), some (.int l5)] [.int l5, .ref x14] Q)) : mi_W (d + 1) 48 187 [some (.ref l1), some (.int l2), some (.int l3), some (.int l4), some (.int l5)] [] (n, sl, f) Q := by
  refine w_aload_n cd_48_187 rfl ?_
  refine w_getfield cd_48_188 (show mt_f 3 19 = some (3, 1) by decide +kernel) h7 h8 h10 ?_
  refine w_getfield cd_48_191 (show mt_f 3 128 = some (2, 4) by decide +kernel) h12 h13 h15 ?_
  refine w_iload cd_48_194 rfl ?_
  refine w_aload_n cd_48_196 rfl ?_
  refine w_aload_n cd_48_197 rfl ?_
  refine w_getfield cd_48_198 (show mt_f 3 44 = some (3, 5) by decide +kernel) h17 h18 h20 ?_
  exact w_invokevirtual cd_48_201 (show mt_m 3 131 = some (43, 0) by decide +kernel) (rest := [.int l5, .ref x14]) rfl (as := [.ref l1, .ref x19]) rfl h22 (Or.inl h23) ⟨Nat.le_of_ble_eq_true rfl, Nat.le_of_ble_eq_true rfl, Nat.le_of_ble_eq_true rfl⟩ h24
theorem b_48_204 {d : Nat} {Q : (Option Value ⊕ Nat) → mi_H → Prop} (n sl : Nat) (f : Nat → mi_C) {l1 : Nat} {l2 : Int32} {l3 : Int32} {l4 : Int32} {l5 : Int32} {s6 : Int32} {s7 : Int32} {s8 : Nat} (m9 i9 : Nat) (g9 : Nat → Int32) (h10 : f s8 = .inl (0, m9, .inl g9)) (h11 : s8 < n) (h12 : mi_ix s7 m9 i9) (h13 : mi_W d 48 278 [some (.ref l1), some (.int l2), some (.int l3), some (.int l4), some (.int l5)] [] (n, sl, (va_up f s8 (.inl (0, m9, .inl (upd g9 i9 s6))))) Q) : mi_W d 48 204 [some (.ref l1), some (.int l2), some (.int l3), some (.int l4), some (.int l5)] [.int s6, .int s7, .ref s8] (n, sl, f) Q := by
  refine w_iastore cd_48_204 h10 h11 h12 ?_
  exact w_goto cd_48_205 (by decide) h13
theorem b_48_208 {d : Nat} {Q : (Option Value ⊕ Nat) → mi_H → Prop} (n sl : Nat) (f : Nat → mi_C) {l1 : Nat} {l2 : Int32} {l3 : Int32} {l4 : Int32} {l5 : Int32} (h6 : l3 = 12 → mi_W d 48 218 [some (.ref l1), some (.int l2), some (.int l3), some (.int l4), some (.int l5)] [] (n, sl, f) Q) (h7 : ¬ (l3 = 12) → mi_W d 48 214 [some (.ref l1), some (.int l2), some (.int l3), some (.int l4), some (.int l5)] [] (n, sl, f) Q) : mi_W d 48 208 [some (.ref l1), some (.int l2), some (.int l3), some (.int l4), some (.int l5)] [] (n, sl, f) Q := by
  refine w_iload_n cd_48_208 rfl ?_
  refine w_bipush (v := 12) cd_48_209 (by decide) ?_
  exact w_if_icmpeq cd_48_211 (by decide) h6 h7
theorem b_48_214 {d : Nat} {Q : (Option Value ⊕ Nat) → mi_H → Prop} (n sl : Nat) (f : Nat → mi_C) {l1 : Nat} {l2 : Int32} {l3 : Int32} {l4 : Int32} {l5 : Int32} (h6 : l4 = (0 : Int32) → mi_W d 48 238 [some (.ref l1), some (.int l2), some (.int l3), some (.int l4), some (.int l5)] [] (n, sl, f) Q) (h7 : ¬ (l4 = (0 : Int32)) → mi_W d 48 218 [some (.ref l1), some (.int l2), some (.int l3), some (.int l4), some (.int l5)] [] (n, sl, f) Q) : mi_W d 48 214 [some (.ref l1), some (.int l2), some (.int l3), some (.int l4), some (.int l5)] [] (n, sl, f) Q := by
  refine w_iload_n cd_48_214 rfl ?_
  exact w_ifeq cd_48_215 (by decide) h6 h7
theorem b_48_218 {d : Nat} {Q : (Option Value ⊕ Nat) → mi_H → Prop} (n sl : Nat) (f : Nat → mi_C) {l1 : Nat} {l2 : Int32} {l3 : Int32} {l4 : Int32} {l5 : Int32} {fs6 : List Value} {x9 : Nat} {fs11 : List Value} {x14 : Nat} {fs16 : List Value} (h7 : f l1 = .inr (3, fs6)) (h8 : l1 < n) (h10 : fs6[1]? = some (.ref x9)) (h12 : f x9 = .inr (2, fs11)) (h13 : x9 < n) (h15 : fs11[1]? = some (.ref x14)) (h17 : f l1 = .inr (3, fs16)) (h18 : l1 < n) (h19 : mi_W d 48 0 (mi_en 5 [.ref l1, .int (l2 + 1)]) [] (n, sl, f) (mi_Kc d 48 231 [some (.ref l1), some (.int l2), some (.int l3), some (.int l4), some (.int l5)] [.int l5, .ref x14] Q)) : mi_W (d + 1) 48 218 [some (.ref l1), some (.int l2), some (.int l3), some (.int l4), some (.int l5)] [] (n, sl, f) Q := by
  refine w_aload_n cd_48_218 rfl ?_
  refine w_getfield cd_48_219 (show mt_f 3 19 = some (3, 1) by decide +kernel) h7 h8 h10 ?_
  refine w_getfield cd_48_222 (show mt_f 3 109 = some (2, 1) by decide +kernel) h12 h13 h15 ?_
  refine w_iload cd_48_225 rfl ?_
  refine w_aload_n cd_48_227 rfl ?_
  refine w_iload_n cd_48_228 rfl ?_
  refine w_iconst (v := 1) cd_48_229 (by decide) ?_
  refine w_iadd cd_48_230 ?_
  exact w_invokevirtual cd_48_231 (show mt_m 3 113 = some (48, 0) by decide +kernel) (rest := [.int l5, .ref x14]) rfl (as := [.ref l1, .int (l2 + 1)]) rfl h17 (Or.inl h18) ⟨Nat.le_of_ble_eq_true rfl, Nat.le_of_ble_eq_true rfl, Nat.le_of_ble_eq_true rfl⟩ h19
theorem b_48_234 {d : Nat} {Q : (Option Value ⊕ Nat) → mi_H → Prop} (n sl : Nat) (f : Nat → mi_C) {l1 : Nat} {l2 : Int32} {l3 : Int32} {l4 : Int32} {l5 : Int32} {s6 : Int32} {s7 : Int32} {s8 : Nat} (m9 i9 : Nat) (g9 : Nat → Int32) (h10 : f s8 = .inl (0, m9, .inl g9)) (h11 : s8 < n) (h12 : mi_ix s7 m9 i9) (h13 : mi_W d 48 278 [some (.ref l1), some (.int l2), some (.int l3), some (.int l4), some (.int l5)] [] (n, sl, (va_up f s8 (.inl (0, m9, .inl (upd g9 i9 s6))))) Q) : mi_W d 48 234 [some (.ref l1), some (.int l2), some (.int l3), some (.int l4), some (.int l5)] [.int s6, .int s7, .ref s8] (n, sl, f) Q := by
  refine w_iastore cd_48_234 h10 h11 h12 ?_
  exact w_goto cd_48_235 (by decide) h13
theorem b_48_238 {d : Nat} {Q : (Option Value ⊕ Nat) → mi_H → Prop} (n sl : Nat) (f : Nat → mi_C) {l1 : Nat} {l2 : Int32} {l3 : Int32} {l4 : Int32} {l5 : Int32} (h6 : ¬ l3 = 17 → mi_W d 48 278 [some (.ref l1), some (.int l2), some (.int l3), some (.int l4), some (.int l5)] [] (n, sl, f) Q) (h7 : ¬ (¬ l3 = 17) → mi_W d 48 244 [some (.ref l1), some (.int l2), some (.int l3), some (.int l4), some (.int l5)] [] (n, sl, f) Q) : mi_W d 48 238 [some (.ref l1), some (.int l2), some (.int l3), some (.int l4), some (.int l5)] [] (n, sl, f) Q := by
  refine w_iload_n cd_48_238 rfl ?_
  refine w_bipush (v := 17) cd_48_239 (by decide) ?_
  exact w_if_icmpne cd_48_241 (by decide) h6 h7
theorem b_48_244 {d : Nat} {Q : (Option Value ⊕ Nat) → mi_H → Prop} (n sl : Nat) (f : Nat → mi_C) {l1 : Nat} {l2 : Int32} {l3 : Int32} {l4 : Int32} {l5 : Int32} {fs6 : List Value} {x9 : Nat} {fs11 : List Value} {x14 : Nat} {fs16 : List Value} (h7 : f l1 = .inr (3, fs6)) (h8 : l1 < n) (h10 : fs6[1]? = some (.ref x9)) (h12 : f x9 = .inr (2, fs11)) (h13 : x9 < n) (h15 : fs11[1]? = some (.ref x14)) (h17 : f l1 = .inr (3, fs16)) (h18 : l1 < n) (h19 : mi_W d 50 0 (mi_en 5 [.ref l1, .int (l2 + 1)]) [] (n, sl, f) (mi_Kc d 48 257 [some (.ref l1), some (.int l2), some (.int l3), some (.int l4), some (.int l5)] [.int l5, .ref x14] Q)) : mi_W (d + 1) 48 244 [some (.ref l1), some (.int l2), some (.int l3), some (.int l4), some (.int l5)] [] (n, sl, f) Q := by
  refine w_aload_n cd_48_244 rfl ?_
  refine w_getfield cd_48_245 (show mt_f 3 19 = some (3, 1) by decide +kernel) h7 h8 h10 ?_
  refine w_getfield cd_48_248 (show mt_f 3 109 = some (2, 1) by decide +kernel) h12 h13 h15 ?_
  refine w_iload cd_48_251 rfl ?_
  refine w_aload_n cd_48_253 rfl ?_
  refine w_iload_n cd_48_254 rfl ?_
  refine w_iconst (v := 1) cd_48_255 (by decide) ?_
  refine w_iadd cd_48_256 ?_
  exact w_invokevirtual cd_48_257 (show mt_m 3 135 = some (50, 0) by decide +kernel) (rest := [.int l5, .ref x14]) rfl (as := [.ref l1, .int (l2 + 1)]) rfl h17 (Or.inl h18) ⟨Nat.le_of_ble_eq_true rfl, Nat.le_of_ble_eq_true rfl, Nat.le_of_ble_eq_true rfl⟩ h19
theorem b_48_260 {d : Nat} {Q : (Option Value ⊕ Nat) → mi_H → Prop} (n sl : Nat) (f : Nat → mi_C) {l1 : Nat} {l2 : Int32} {l3 : Int32} {l4 : Int32} {l5 : Int32} {s6 : Int32} {s7 : Int32} {s8 : Nat} (m9 i9 : Nat) (g9 : Nat → Int32) {fs13 : List Value} {x16 : Nat} {fs18 : List Value} {x21 : Nat} {fs23 : List Value} (h10 : f s8 = .inl (0, m9, .inl g9)) (h11 : s8 < n) (h12 : mi_ix s7 m9 i9) (h14 : (va_up f s8 (.inl (0, m9, .inl (upd g9 i9 s6)))) l1 = .inr (3, fs13)) (h15 : l1 < n) (h17 : fs13[1]? = some (.ref x16)) (h19 : (va_up f s8 (.inl (0, m9, .inl (upd g9 i9 s6)))) x16 = .inr (2, fs18)) (h20 : x16 < n) (h22 : fs18[2]? = some (.ref x21)) (h24 : (va_up f s8 (.inl (0, m9, .inl (upd g9 i9 s6)))) l1 = .inr (3, fs23)) (h25 : l1 < n) (h26 : mi_W d 48 0 (mi_en 5 [.ref l1, .int (l2 + 1)]) [] (n, sl, (va_up f s8 (.inl (0, m9, .inl (upd g9 i9 s6))))) (mi_Kc d 48 274 [some (.ref l1), some (.int l2), some (.int l3), some (.int l4), some (.int l5)] [.int l5, .ref x21] Q)) : mi_W (d + 1) 48 260 [some (.ref l1), some (.int l2), some (.int l3), some (.int l4), some (.int l5)] [.int s6, .int s7, .ref s8] (n, sl, f) Q := by
  refine w_iastore cd_48_260 h10 h11 h12 ?_
  refine w_aload_n cd_48_261 rfl ?_
  refine w_getfield cd_48_262 (show mt_f 3 19 = some (3, 1) by decide +kernel) h14 h15 h17 ?_
  refine w_getfield cd_48_265 (show mt_f 3 138 = some (2, 2) by decide +kernel) h19 h20 h22 ?_
  refine w_iload cd_48_268 rfl ?_
  refine w_aload_n cd_48_270 rfl ?_
  refine w_iload_n cd_48_271 rfl ?_
  refine w_iconst (v := 1) cd_48_272 (by decide) ?_
  refine w_iadd cd_48_273 ?_
  exact w_invokevirtual cd_48_274 (show mt_m 3 113 = some (48, 0) by decide +kernel) (rest := [.int l5, .ref x21]) rfl (as := [.ref l1, .int (l2 + 1)]) rfl h24 (Or.inl h25) ⟨Nat.le_of_ble_eq_true rfl, Nat.le_of_ble_eq_true rfl, Nat.le_of_ble_eq_true rfl⟩ h26
theorem b_48_277 {d : Nat} {Q : (Option Value ⊕ Nat) → mi_H → Prop} (n sl : Nat) (f : Nat → mi_C) {l1 : Nat} {l2 : Int32} {l3 : Int32} {l4 : Int32} {l5 : Int32} {s6 : Int32} {s7 : Int32} {s8 : Nat} (m9 i9 : Nat) (g9 : Nat → Int32) (h10 : f s8 = .inl (0, m9, .inl g9)) (h11 : s8 < n) (h12 : mi_ix s7 m9 i9) (h13 : mi_W d 48 278 [some (.ref l1), some (.int l2), some (.int l3), some (.int l4), some (.int l5)] [] (n, sl, (va_up f s8 (.inl (0, m9, .inl (upd g9 i9 s6))))) Q) : mi_W d 48 277 [some (.ref l1), some (.int l2), some (.int l3), some (.int l4), some (.int l5)] [.int s6, .int s7, .ref s8] (n, sl, f) Q := by
  refine w_iastore cd_48_277 h10 h11 h12 ?_
  exact h13
theorem b_48_278 {d : Nat} {Q : (Option Value ⊕ Nat) → mi_H → Prop} (n sl : Nat) (f : Nat → mi_C) {l1 : Nat} {l2 : Int32} {l3 : Int32} {l4 : Int32} {l5 : Int32} (h6 : ¬ l4 = (0 : Int32) → mi_W d 48 288 [some (.ref l1), some (.int l2), some (.int l3), some (.int l4), some (.int l5)] [] (n, sl, f) Q) (h7 : ¬ (¬ l4 = (0 : Int32)) → mi_W d 48 282 [some (.ref l1), some (.int l2), some (.int l3), some (.int l4), some (.int l5)] [] (n, sl, f) Q) : mi_W d 48 278 [some (.ref l1), some (.int l2), some (.int l3), some (.int l4), some (.int l5)] [] (n, sl, f) Q := by
  refine w_iload_n cd_48_278 rfl ?_
  exact w_ifne cd_48_279 (by decide) h6 h7
theorem b_48_282 {d : Nat} {Q : (Option Value ⊕ Nat) → mi_H → Prop} (n sl : Nat) (f : Nat → mi_C) {l1 : Nat} {l2 : Int32} {l3 : Int32} {l4 : Int32} {l5 : Int32} (h6 : ¬ l3 = 17 → mi_W d 48 305 [some (.ref l1), some (.int l2), some (.int l3), some (.int l4), some (.int l5)] [] (n, sl, f) Q) (h7 : ¬ (¬ l3 = 17) → mi_W d 48 288 [some (.ref l1), some (.int l2), some (.int l3), some (.int l4), some (.int l5)] [] (n, sl, f) Q) : mi_W d 48 282 [some (.ref l1), some (.int l2), some (.int l3), some (.int l4), some (.int l5)] [] (n, sl, f) Q := by
  refine w_iload_n cd_48_282 rfl ?_
  refine w_bipush (v := 17) cd_48_283 (by decide) ?_
  exact w_if_icmpne cd_48_285 (by decide) h6 h7
theorem b_48_288 {d : Nat} {Q : (Option Value ⊕ Nat) → mi_H → Prop} (n sl : Nat) (f : Nat → mi_C) {l1 : Nat} {l2 : Int32} {l3 : Int32} {l4 : Int32} {l5 : Int32} {fs6 : List Value} {x9 : Nat} {fs11 : List Value} {x14 : Nat} {fs16 : List Value} (h7 : f l1 = .inr (3, fs6)) (h8 : l1 < n) (h10 : fs6[1]? = some (.ref x9)) (h12 : f x9 = .inr (2, fs11)) (h13 : x9 < n) (h15 : fs11[3]? = some (.ref x14)) (h17 : f l1 = .inr (3, fs16)) (h18 : l1 < n) (h19 : mi_W d 48 0 (mi_en 5 [.ref l1, .int (l2 + 1)]) [] (n, sl, f) (mi_Kc d 48 301 [some (.ref l1), some (.int l2), some (.int l3), some (.int l4), some (.int l5)] [.int l5, .ref x14] Q)) : mi_W (d + 1) 48 288 [some (.ref l1), some (.int l2), some (.int l3), some (.int l4), some (.int l5)] [] (n, sl, f) Q := by
  refine w_aload_n cd_48_288 rfl ?_
  refine w_getfield cd_48_289 (show mt_f 3 19 = some (3, 1) by decide +kernel) h7 h8 h10 ?_
  refine w_getfield cd_48_292 (show mt_f 3 141 = some (2, 3) by decide +kernel) h12 h13 h15 ?_
  refine w_iload cd_48_295 rfl ?_
  refine w_aload_n cd_48_297 rfl ?_
  refine w_iload_n cd_48_298 rfl ?_
  refine w_iconst (v := 1) cd_48_299 (by decide) ?_
  refine w_iadd cd_48_300 ?_
  exact w_invokevirtual cd_48_301 (show mt_m 3 113 = some (48, 0) by decide +kernel) (rest := [.int l5, .ref x14]) rfl (as := [.ref l1, .int (l2 + 1)]) rfl h17 (Or.inl h18) ⟨Nat.le_of_ble_eq_true rfl, Nat.le_of_ble_eq_true rfl, Nat.le_of_ble_eq_true rfl⟩ h19
theorem b_48_304 {d : Nat} {Q : (Option Value ⊕ Nat) → mi_H → Prop} (n sl : Nat) (f : Nat → mi_C) {l1 : Nat} {l2 : Int32} {l3 : Int32} {l4 : Int32} {l5 : Int32} {s6 : Int32} {s7 : Int32} {s8 : Nat} (m9 i9 : Nat) (g9 : Nat → Int32) (h10 : f s8 = .inl (0, m9, .inl g9)) (h11 : s8 < n) (h12 : mi_ix s7 m9 i9) (h13 : mi_W d 48 305 [some (.ref l1), some (.int l2), some (.int l3), some (.int l4), some (.int l5)] [] (n, sl, (va_up f s8 (.inl (0, m9, .inl (upd g9 i9 s6))))) Q) : mi_W d 48 304 [some (.ref l1), some (.int l2), some (.int l3), some (.int l4), some (.int l5)] [.int s6, .int s7, .ref s8] (n, sl, f) Q := by
  refine w_iastore cd_48_304 h10 h11 h12 ?_
  exact h13
theorem b_48_305 {d : Nat} {Q : (Option Value ⊕ Nat) → mi_H → Prop} (n sl : Nat) (f : Nat → mi_C) {l1 : Nat} {l2 : Int32} {l3 : Int32} {l4 : Int32} {l5 : Int32} {fs6 : List Value} {x9 : Nat} {fs11 : List Value} {x14 : Nat} {fs16 : List Value} {x19 : Nat} {fs21 : List Value} {x24 : Int32} (m26 i26 : Nat) (g26 : Nat → Int32) (h7 : f l1 = .inr (3, fs6)) (h8 : l1 < n) (h10 : fs6[1]? = some (.ref x9)) (h12 : f x9 = .inr (2, fs11)) (h13 : x9 < n) (h15 : fs11[7]? = some (.ref x14)) (h17 : f l1 = .inr (3, fs16)) (h18 : l1 < n) (h20 : fs16[1]? = some (.ref x19)) (h22 : f x19 = .inr (2, fs21)) (h23 : x19 < n) (h25 : fs21[11]? = some (.int x24)) (h27 : f x14 = .inl (0, m26, .inl g26)) (h28 : x14 < n) (h29 : mi_ix l5 m26 i26) (h30 : Q (.inl (some (.int l5))) (n, sl, (va_up f x14 (.inl (0, m26, .inl (upd g26 i26 x24)))))) : mi_W d 48 305 [some (.ref l1), some (.int l2), some (.int l3), some (.int l4), some (.int l5)] [] (n, sl, f) Q := by
  refine w_aload_n cd_48_305 rfl ?_
  refine w_getfield cd_48_306 (show mt_f 3 19 = some (3, 1) by decide +kernel) h7 h8 h10 ?_
  refine w_getfield cd_48_309 (show mt_f 3 144 = some (2, 7) by decide +kernel) h12 h13 h15 ?_
  refine w_iload cd_48_312 rfl ?_
  refine w_aload_n cd_48_314 rfl ?_
  refine w_getfield cd_48_315 (show mt_f 3 19 = some (3, 1) by decide +kernel) h17 h18 h20 ?_
  refine w_getfield cd_48_318 (show mt_f 3 87 = some (2, 11) by decide +kernel) h22 h23 h25 ?_
  refine w_iastore cd_48_321 h27 h28 h29 ?_
  refine w_iload cd_48_322 rfl ?_
  exact w_ireturn_i cd_48_324 (by decide +kernel) h30
/-! MarloweHost$Reader.readChoiceName()I -/
set_option maxRecDepth 100000 in
theorem mq_49 : mt_q 49 = my_49 := rfl
set_option maxRecDepth 100000 in
theorem ci_49 : mt_inc 0 my_49.cd = true := by decide +kernel
theorem cd_49_0 : mt_cd 49 0 = some (.aload_n 0) := mt_cd_of (q := (0, .aload_n 0, 1)) mq_49 ci_49 (List.mem_of_getElem? (i := 0) rfl)
theorem cd_49_1 : mt_cd 49 1 = some (.aload_n 0) := mt_cd_of (q := (1, .aload_n 0, 1)) mq_49 ci_49 (List.mem_of_getElem? (i := 1) rfl)
theorem cd_49_2 : mt_cd 49 2 = some (.getfield 15) := mt_cd_of (q := (2, .getfield 15, 3)) mq_49 ci_49 (List.mem_of_getElem? (i := 2) rfl)
theorem cd_49_5 : mt_cd 49 5 = some (.getfield 67) := mt_cd_of (q := (5, .getfield 67, 3)) mq_49 ci_49 (List.mem_of_getElem? (i := 3) rfl)
theorem cd_49_8 : mt_cd 49 8 = some (.bipush 38) := mt_cd_of (q := (8, .bipush 38, 2)) mq_49 ci_49 (List.mem_of_getElem? (i := 4) rfl)
theorem cd_49_10 : mt_cd 49 10 = some (.if_icmp .ne 7) := mt_cd_of (q := (10, .if_icmp .ne 7, 3)) mq_49 ci_49 (List.mem_of_getElem? (i := 5) rfl)
theorem cd_49_13 : mt_cd 49 13 = some (.iconst 1) := mt_cd_of (q := (13, .iconst 1, 1)) mq_49 ci_49 (List.mem_of_getElem? (i := 6) rfl)
theorem cd_49_14 : mt_cd 49 14 = some (.goto 4) := mt_cd_of (q := (14, .goto 4, 3)) mq_49 ci_49 (List.mem_of_getElem? (i := 7) rfl)
theorem cd_49_17 : mt_cd 49 17 = some (.iconst 0) := mt_cd_of (q := (17, .iconst 0, 1)) mq_49 ci_49 (List.mem_of_getElem? (i := 8) rfl)
theorem cd_49_18 : mt_cd 49 18 = some (.invokevirtual 70) := mt_cd_of (q := (18, .invokevirtual 70, 3)) mq_49 ci_49 (List.mem_of_getElem? (i := 9) rfl)
theorem cd_49_21 : mt_cd 49 21 = some (.aload_n 0) := mt_cd_of (q := (21, .aload_n 0, 1)) mq_49 ci_49 (List.mem_of_getElem? (i := 10) rfl)
theorem cd_49_22 : mt_cd 49 22 = some (.getfield 15) := mt_cd_of (q := (22, .getfield 15, 3)) mq_49 ci_49 (List.mem_of_getElem? (i := 11) rfl)
theorem cd_49_25 : mt_cd 49 25 = some (.getfield 74) := mt_cd_of (q := (25, .getfield 74, 3)) mq_49 ci_49 (List.mem_of_getElem? (i := 12) rfl)
theorem cd_49_28 : mt_cd 49 28 = some (.istore_n 1) := mt_cd_of (q := (28, .istore_n 1, 1)) mq_49 ci_49 (List.mem_of_getElem? (i := 13) rfl)
theorem cd_49_29 : mt_cd 49 29 = some (.aload_n 0) := mt_cd_of (q := (29, .aload_n 0, 1)) mq_49 ci_49 (List.mem_of_getElem? (i := 14) rfl)
theorem cd_49_30 : mt_cd 49 30 = some (.getfield 15) := mt_cd_of (q := (30, .getfield 15, 3)) mq_49 ci_49 (List.mem_of_getElem? (i := 15) rfl)
theorem cd_49_33 : mt_cd 49 33 = some (.getfield 170) := mt_cd_of (q := (33, .getfield 170, 3)) mq_49 ci_49 (List.mem_of_getElem? (i := 16) rfl)
theorem cd_49_36 : mt_cd 49 36 = some (.istore_n 2) := mt_cd_of (q := (36, .istore_n 2, 1)) mq_49 ci_49 (List.mem_of_getElem? (i := 17) rfl)
theorem cd_49_37 : mt_cd 49 37 = some (.aload_n 0) := mt_cd_of (q := (37, .aload_n 0, 1)) mq_49 ci_49 (List.mem_of_getElem? (i := 18) rfl)
theorem cd_49_38 : mt_cd 49 38 = some (.getfield 15) := mt_cd_of (q := (38, .getfield 15, 3)) mq_49 ci_49 (List.mem_of_getElem? (i := 19) rfl)
theorem cd_49_41 : mt_cd 49 41 = some (.invokevirtual 84) := mt_cd_of (q := (41, .invokevirtual 84, 3)) mq_49 ci_49 (List.mem_of_getElem? (i := 20) rfl)
theorem cd_49_44 : mt_cd 49 44 = some (.aload_n 0) := mt_cd_of (q := (44, .aload_n 0, 1)) mq_49 ci_49 (List.mem_of_getElem? (i := 21) rfl)
theorem cd_49_45 : mt_cd 49 45 = some (.aload_n 0) := mt_cd_of (q := (45, .aload_n 0, 1)) mq_49 ci_49 (List.mem_of_getElem? (i := 22) rfl)
theorem cd_49_46 : mt_cd 49 46 = some (.getfield 15) := mt_cd_of (q := (46, .getfield 15, 3)) mq_49 ci_49 (List.mem_of_getElem? (i := 23) rfl)
theorem cd_49_49 : mt_cd 49 49 = some (.getfield 67) := mt_cd_of (q := (49, .getfield 67, 3)) mq_49 ci_49 (List.mem_of_getElem? (i := 24) rfl)
theorem cd_49_52 : mt_cd 49 52 = some (.bipush 38) := mt_cd_of (q := (52, .bipush 38, 2)) mq_49 ci_49 (List.mem_of_getElem? (i := 25) rfl)
theorem cd_49_54 : mt_cd 49 54 = some (.if_icmp .ne 7) := mt_cd_of (q := (54, .if_icmp .ne 7, 3)) mq_49 ci_49 (List.mem_of_getElem? (i := 26) rfl)
theorem cd_49_57 : mt_cd 49 57 = some (.iconst 1) := mt_cd_of (q := (57, .iconst 1, 1)) mq_49 ci_49 (List.mem_of_getElem? (i := 27) rfl)
theorem cd_49_58 : mt_cd 49 58 = some (.goto 4) := mt_cd_of (q := (58, .goto 4, 3)) mq_49 ci_49 (List.mem_of_getElem? (i := 28) rfl)
theorem cd_49_61 : mt_cd 49 61 = some (.iconst 0) := mt_cd_of (q := (61, .iconst 0, 1)) mq_49 ci_49 (List.mem_of_getElem? (i := 29) rfl)
theorem cd_49_62 : mt_cd 49 62 = some (.invokevirtual 70) := mt_cd_of (q := (62, .invokevirtual 70, 3)) mq_49 ci_49 (List.mem_of_getElem? (i := 30) rfl)
theorem cd_49_65 : mt_cd 49 65 = some (.aload_n 0) := mt_cd_of (q := (65, .aload_n 0, 1)) mq_49 ci_49 (List.mem_of_getElem? (i := 31) rfl)
theorem cd_49_66 : mt_cd 49 66 = some (.getfield 41) := mt_cd_of (q := (66, .getfield 41, 3)) mq_49 ci_49 (List.mem_of_getElem? (i := 32) rfl)
theorem cd_49_69 : mt_cd 49 69 = some (.iload_n 1) := mt_cd_of (q := (69, .iload_n 1, 1)) mq_49 ci_49 (List.mem_of_getElem? (i := 33) rfl)
theorem cd_49_70 : mt_cd 49 70 = some (.iload_n 2) := mt_cd_of (q := (70, .iload_n 2, 1)) mq_49 ci_49 (List.mem_of_getElem? (i := 34) rfl)
theorem cd_49_71 : mt_cd 49 71 = some (.aload_n 0) := mt_cd_of (q := (71, .aload_n 0, 1)) mq_49 ci_49 (List.mem_of_getElem? (i := 35) rfl)
theorem cd_49_72 : mt_cd 49 72 = some (.getfield 34) := mt_cd_of (q := (72, .getfield 34, 3)) mq_49 ci_49 (List.mem_of_getElem? (i := 36) rfl)
theorem cd_49_75 : mt_cd 49 75 = some (.aload_n 0) := mt_cd_of (q := (75, .aload_n 0, 1)) mq_49 ci_49 (List.mem_of_getElem? (i := 37) rfl)
theorem cd_49_76 : mt_cd 49 76 = some (.getfield 15) := mt_cd_of (q := (76, .getfield 15, 3)) mq_49 ci_49 (List.mem_of_getElem? (i := 38) rfl)
theorem cd_49_79 : mt_cd 49 79 = some (.getfield 74) := mt_cd_of (q := (79, .getfield 74, 3)) mq_49 ci_49 (List.mem_of_getElem? (i := 39) rfl)
theorem cd_49_82 : mt_cd 49 82 = some (.aload_n 0) := mt_cd_of (q := (82, .aload_n 0, 1)) mq_49 ci_49 (List.mem_of_getElem? (i := 40) rfl)
theorem cd_49_83 : mt_cd 49 83 = some (.getfield 15) := mt_cd_of (q := (83, .getfield 15, 3)) mq_49 ci_49 (List.mem_of_getElem? (i := 41) rfl)
theorem cd_49_86 : mt_cd 49 86 = some (.getfield 170) := mt_cd_of (q := (86, .getfield 170, 3)) mq_49 ci_49 (List.mem_of_getElem? (i := 42) rfl)
theorem cd_49_89 : mt_cd 49 89 = some (.iconst (-1)) := mt_cd_of (q := (89, .iconst (-1), 1)) mq_49 ci_49 (List.mem_of_getElem? (i := 43) rfl)
theorem cd_49_90 : mt_cd 49 90 = some (.invokevirtual 173) := mt_cd_of (q := (90, .invokevirtual 173, 3)) mq_49 ci_49 (List.mem_of_getElem? (i := 44) rfl)
theorem cd_49_93 : mt_cd 49 93 = some (.invokevirtual 173) := mt_cd_of (q := (93, .invokevirtual 173, 3)) mq_49 ci_49 (List.mem_of_getElem? (i := 45) rfl)
theorem cd_49_96 : mt_cd 49 96 = some (.istore_n 3) := mt_cd_of (q := (96, .istore_n 3, 1)) mq_49 ci_49 (List.mem_of_getElem? (i := 46) rfl)
theorem cd_49_97 : mt_cd 49 97 = some (.aload_n 0) := mt_cd_of (q := (97, .aload_n 0, 1)) mq_49 ci_49 (List.mem_of_getElem? (i := 47) rfl)
theorem cd_49_98 : mt_cd 49 98 = some (.iload_n 1) := mt_cd_of (q := (98, .iload_n 1, 1)) mq_49 ci_49 (List.mem_of_getElem? (i := 48) rfl)
theorem cd_49_99 : mt_cd 49 99 = some (.iload_n 3) := mt_cd_of (q := (99, .iload_n 3, 1)) mq_49 ci_49 (List.mem_of_getElem? (i := 49) rfl)
theorem cd_49_100 : mt_cd 49 100 = some (.iconst (-1)) := mt_cd_of (q := (100, .iconst (-1), 1)) mq_49 ci_49 (List.mem_of_getElem? (i := 50) rfl)
theorem cd_49_101 : mt_cd 49 101 = some (.if_icmp .ne 13) := mt_cd_of (q := (101, .if_icmp .ne 13, 3)) mq_49 ci_49 (List.mem_of_getElem? (i := 51) rfl)
theorem cd_49_104 : mt_cd 49 104 = some (.aload_n 0) := mt_cd_of (q := (104, .aload_n 0, 1)) mq_49 ci_49 (List.mem_of_getElem? (i := 52) rfl)
theorem cd_49_105 : mt_cd 49 105 = some (.getfield 41) := mt_cd_of (q := (105, .getfield 41, 3)) mq_49 ci_49 (List.mem_of_getElem? (i := 53) rfl)
theorem cd_49_108 : mt_cd 49 108 = some (.invokevirtual 176) := mt_cd_of (q := (108, .invokevirtual 176, 3)) mq_49 ci_49 (List.mem_of_getElem? (i := 54) rfl)
theorem cd_49_111 : mt_cd 49 111 = some (.ifCond .eq 7) := mt_cd_of (q := (111, .ifCond .eq 7, 3)) mq_49 ci_49 (List.mem_of_getElem? (i := 55) rfl)
theorem cd_49_114 : mt_cd 49 114 = some (.iconst 1) := mt_cd_of (q := (114, .iconst 1, 1)) mq_49 ci_49 (List.mem_of_getElem? (i := 56) rfl)
theorem cd_49_115 : mt_cd 49 115 = some (.goto 4) := mt_cd_of (q := (115, .goto 4, 3)) mq_49 ci_49 (List.mem_of_getElem? (i := 57) rfl)
theorem cd_49_118 : mt_cd 49 118 = some (.iconst 0) := mt_cd_of (q := (118, .iconst 0, 1)) mq_49 ci_49 (List.mem_of_getElem? (i := 58) rfl)
theorem cd_49_119 : mt_cd 49 119 = some (.invokevirtual 59) := mt_cd_of (q := (119, .invokevirtual 59, 3)) mq_49 ci_49 (List.mem_of_getElem? (i := 59) rfl)
theorem cd_49_122 : mt_cd 49 122 = some (.aload_n 0) := mt_cd_of (q := (122, .aload_n 0, 1)) mq_49 ci_49 (List.mem_of_getElem? (i := 60) rfl)
theorem cd_49_123 : mt_cd 49 123 = some (.aload_n 0) := mt_cd_of (q := (123, .aload_n 0, 1)) mq_49 ci_49 (List.mem_of_getElem? (i := 61) rfl)
theorem cd_49_124 : mt_cd 49 124 = some (.getfield 34) := mt_cd_of (q := (124, .getfield 34, 3)) mq_49 ci_49 (List.mem_of_getElem? (i := 62) rfl)
theorem cd_49_127 : mt_cd 49 127 = some (.invokevirtual 131) := mt_cd_of (q := (127, .invokevirtual 131, 3)) mq_49 ci_49 (List.mem_of_getElem? (i := 63) rfl)
theorem cd_49_130 : mt_cd 49 130 = some (.istore 4) := mt_cd_of (q := (130, .istore 4, 2)) mq_49 ci_49 (List.mem_of_getElem? (i := 64) rfl)
theorem cd_49_132 : mt_cd 49 132 = some (.iload_n 3) := mt_cd_of (q := (132, .iload_n 3, 1)) mq_49 ci_49 (List.mem_of_getElem? (i := 65) rfl)
theorem cd_49_133 : mt_cd 49 133 = some (.iconst (-1)) := mt_cd_of (q := (133, .iconst (-1), 1)) mq_49 ci_49 (List.mem_of_getElem? (i := 66) rfl)
theorem cd_49_134 : mt_cd 49 134 = some (.if_icmp .eq 7) := mt_cd_of (q := (134, .if_icmp .eq 7, 3)) mq_49 ci_49 (List.mem_of_getElem? (i := 67) rfl)
theorem cd_49_137 : mt_cd 49 137 = some (.iload_n 3) := mt_cd_of (q := (137, .iload_n 3, 1)) mq_49 ci_49 (List.mem_of_getElem? (i := 68) rfl)
theorem cd_49_138 : mt_cd 49 138 = some (.goto 14) := mt_cd_of (q := (138, .goto 14, 3)) mq_49 ci_49 (List.mem_of_getElem? (i := 69) rfl)
theorem cd_49_141 : mt_cd 49 141 = some (.aload_n 0) := mt_cd_of (q := (141, .aload_n 0, 1)) mq_49 ci_49 (List.mem_of_getElem? (i := 70) rfl)
theorem cd_49_142 : mt_cd 49 142 = some (.getfield 41) := mt_cd_of (q := (142, .getfield 41, 3)) mq_49 ci_49 (List.mem_of_getElem? (i := 71) rfl)
theorem cd_49_145 : mt_cd 49 145 = some (.iload_n 1) := mt_cd_of (q := (145, .iload_n 1, 1)) mq_49 ci_49 (List.mem_of_getElem? (i := 72) rfl)
theorem cd_49_146 : mt_cd 49 146 = some (.iload_n 2) := mt_cd_of (q := (146, .iload_n 2, 1)) mq_49 ci_49 (List.mem_of_getElem? (i := 73) rfl)
theorem cd_49_147 : mt_cd 49 147 = some (.iload 4) := mt_cd_of (q := (147, .iload 4, 2)) mq_49 ci_49 (List.mem_of_getElem? (i := 74) rfl)
theorem cd_49_149 : mt_cd 49 149 = some (.invokevirtual 180) := mt_cd_of (q := (149, .invokevirtual 180, 3)) mq_49 ci_49 (List.mem_of_getElem? (i := 75) rfl)
theorem cd_49_152 : mt_cd 49 152 = some (.ireturn) := mt_cd_of (q := (152, .ireturn, 1)) mq_49 ci_49 (List.mem_of_getElem? (i := 76) rfl)
theorem b_49_0 {d : Nat} {Q : (Option Value ⊕ Nat) → mi_H → Prop} (n sl : Nat) (f : Nat → mi_C) {l1 : Nat} {o2 : Option Value} {o3 : Option Value} {o4 : Option Value} {o5 : Option Value} {fs6 : List Value} {x9 : Nat} {fs11 : List Value} {x14 : Int32} (h7 : f l1 = .inr (3, fs6)) (h8 : l1 < n) (h10 : fs6[0]? = some (.ref x9)) (h12 : f x9 = .inr (1, fs11)) (h13 : x9 < n) (h15 : fs11[2]? = some (.int x14)) (h16 : ¬ x14 = 38 → mi_W d 49 17 [some (.ref l1), o2, o3, o4, o5] [.ref l1] (n, sl, f) Q) (h17 : ¬ (¬ x14 = 38) → mi_W d 49 13 [some (.ref l1), o2, o3, o4, o5] [.ref l1] (n, sl, f) Q) : mi_W d 49 0 [some (.ref l1), o2, o3, o4, o5] [] (n, sl, f) Q := by
  refine w_aload_n cd_49_0 rfl ?_
  refine w_aload_n cd_49_1 rfl ?_
  refine w_getfield cd_49_2 (show mt_f 3 15 = some (3, 0) by decide +kernel) h7 h8 h10 ?_
  refine w_getfield cd_49_5 (show mt_f 3 67 = some (1, 2) by decide +kernel) h12 h13 h15 ?_
  refine w_bipush (v := 38) cd_49_8 (by decide) ?_
  exact w_if_icmpne cd_49_10 (by decide) h16 h17
theorem b_49_13 {d : Nat} {Q : (Option Value ⊕ Nat) → mi_H → Prop} (n sl : Nat) (f : Nat → mi_C) {l1 : Nat} {o2 : Option Value} {o3 : Option Value} {o4 : Option Value} {o5 : Option Value} {s6 : Nat} (h7 : mi_W d 49 18 [some (.ref l1), o2, o3, o4, o5] [.int 1, .ref s6] (n, sl, f) Q) : mi_W d 49 13 [some (.ref l1), o2, o3, o4, o5] [.ref s6] (n, sl, f) Q := by
  refine w_iconst (v := 1) cd_49_13 (by decide) ?_
  exact w_goto cd_49_14 (by decide) h7
theorem b_49_17 {d : Nat} {Q : (Option Value ⊕ Nat) → mi_H → Prop} (n sl : Nat) (f : Nat → mi_C) {l1 : Nat} {o2 : Option Value} {o3 : Option Value} {o4 : Option Value} {o5 : Option Value} {s6 : Nat} (h7 : mi_W d 49 18 [some (.ref l1), o2, o3, o4, o5] [.int 0, .ref s6] (n, sl, f) Q) : mi_W d 49 17 [some (.ref l1), o2, o3, o4, o5] [.ref s6] (n, sl, f) Q := by
  refine w_iconst (v := 0) cd_49_17 (by decide) ?_
  exact h7
theorem b_49_18 {d : Nat} {Q : (Option Value ⊕ Nat) → mi_H → Prop} (n sl : Nat) (f : Nat → mi_C) {l1 : Nat} {o2 : Option Value} {o3 : Option Value} {o4 : Option Value} {o5 : Option Value} {s6 : Int32} {s7 : Nat} {fs8 : List Value} (h9 : f s7 = .inr (3, fs8)) (h10 : s7 < n) (h11 : mi_W d 38 0 (mi_en 2 [.ref s7, .int s6]) [] (n, sl, f) (mi_Kc d 49 18 [some (.ref l1), o2, o3, o4, o5] [] Q)) : mi_W (d + 1) 49 18 [some (.ref l1), o2, o3, o4, o5] [.int s6, .ref s7] (n, sl, f) Q := by
  exact w_invokevirtual cd_49_18 (show mt_m 3 70 = some (38, 0) by decide +kernel) (rest := []) rfl (as := [.ref s7, .int s6]) rfl h9 (Or.inl h10) ⟨Nat.le_of_ble_eq_true rfl, Nat.le_of_ble_eq_true rfl, Nat.le_of_ble_eq_true rfl⟩ h11
theorem b_49_21 {d : Nat} {Q : (Option Value ⊕ Nat) → mi_H → Prop} (n sl : Nat) (f : Nat → mi_C) {l1 : Nat} {o2 : Option Value} {o3 : Option Value} {o4 : Option Value} {o5 : Option Value} {fs6 : List Value} {x9 : Nat} {fs11 : List Value} {x14 : Int32} {fs16 : List Value} {x19 : Nat} {fs21 : List Value} {x24 : Int32} {fs26 : List Value} {x29 : Nat} {fs31 : List Value} (h7 : f l1 = .inr (3, fs6)) (h8 : l1 < n) (h10 : fs6[0]? = some (.ref x9)) (h12 : f x9 = .inr (1, fs11)) (h13 : x9 < n) (h15 : fs11[3]? = some (.int x14)) (h17 : f l1 = .inr (3, fs16)) (h18 : l1 < n) (h20 : fs16[0]? = some (.ref x19)) (h22 : f x19 = .inr (1, fs21)) (h23 : x19 < n) (h25 : fs21[4]? = some (.int x24)) (h27 : f l1 = .inr (3, fs26)) (h28 : l1 < n) (h30 : fs26[0]? = some (.ref x29)) (h32 : f x29 = .inr (1, fs31)) (h33 : x29 < n) (h34 : mi_W d 24 0 (mi_en 2 [.ref x29]) [] (n, sl, f) (mi_Kc d 49 41 [some (.ref l1), some (.int x14), some (.int x24), o4, o5] [] Q)) : mi_W (d + 1) 49 21 [some (.ref l1), o2, o3, o4, o5] [] (n, sl, f) Q := by
  refine w_aload_n cd_49_21 rfl ?_
  refine w_getfield cd_49_22 (show mt_f 3 15 = some (3, 0) by decide +kernel) h7 h8 h10 ?_
  refine w_getfield cd_49_25 (show mt_f 3 74 = some (1, 3) by decide +kernel) h12 h13 h15 ?_
  refine w_istore_n (ls' := [some (.ref l1), some (.int x14), o3, o4, o5]) cd_49_28 (Nat.le_of_ble_eq_true rfl) rfl ?_
  refine w_aload_n cd_49_29 rfl ?_
  refine w_getfield cd_49_30 (show mt_f 3 15 = some (3, 0) by decide +kernel) h17 h18 h20 ?_
  refine w_getfield cd_49_33 (show mt_f 3 170 = some (1, 4) by decide +kernel) h22 h23 h25 ?_
  refine w_istore_n (ls' := [some (.ref l1), some (.int x14), some (.int x24), o4, o5]) cd_49_36 (Nat.le_of_ble_eq_true rfl) rfl ?_
  refine w_aload_n cd_49_37 rfl ?_
  refine w_getfield cd_49_38 (show mt_f 3 15 = some (3, 0) by decide +kernel) h27 h28 h30 ?_
  exact w_invokevirtual cd_49_41 (show mt_m 3 84 = some (24, 0) by decide +kernel) (rest := []) rfl (as := [.ref x29]) rfl h32 (Or.inl h33) ⟨Nat.le_of_ble_eq_true rfl, Nat.le_of_ble_eq_true rfl, Nat.le_of_ble_eq_true rfl⟩ h34
theorem b_49_44 {d : Nat} {Q : (Option Value ⊕ Nat) → mi_H → Prop} (n sl : Nat) (f : Nat → mi_C) {l1 : Nat} {l2 : Int32} {l3 : Int32} {o4 : Option Value} {o5 : Option Value} {fs6 : List Value} {x9 : Nat} {fs11 : List Value} {x14 : Int32} (h7 : f l1 = .inr (3, fs6)) (h8 : l1 < n) (h10 : fs6[0]? = some (.ref x9)) (h12 : f x9 = .inr (1, fs11)) (h13 : x9 < n) (h15 : fs11[2]? = some (.int x14)) (h16 : ¬ x14 = 38 → mi_W d 49 61 [some (.ref l1), some (.int l2), some (.int l3), o4, o5] [.ref l1] (n, sl, f) Q) (h17 : ¬ (¬ x14 = 38) → mi_W d 49 57 [some (.ref l1), some (.int l2), some (.int l3), o4, o5] [.ref l1] (n, sl, f) Q) : mi_W d 49 44 [some (.ref l1), some (.int l2), some (.int l3), o4, o5] [] (n, sl, f) Q := by
  refine w_aload_n cd_49_44 rfl ?_
  refine w_aload_n cd_49_45 rfl ?_
  refine w_getfield cd_49_46 (show mt_f 3 15 = some (3, 0) by decide +kernel) h7 h8 h10 ?_
  refine w_getfield cd_49_49 (show mt_f 3 67 = some (1, 2) by decide +kernel) h12 h13 h15 ?_
  refine w_bipush (v := 38) cd_49_52 (by decide) ?_
  exact w_if_icmpne cd_49_54 (by decide) h16 h17
theorem b_49_57 {d : Nat} {Q : (Option Value ⊕ Nat) → mi_H → Prop} (n sl : Nat) (f : Nat → mi_C) {l1 : Nat} {l2 : Int32} {l3 : Int32} {o4 : Option Value} {o5 : Option Value} {s6 : Nat} (h7 : mi_W d 49 62 [some (.ref l1), some (.int l2), some (.int l3), o4, o5] [.int 1, .ref s6] (n, sl, f) Q) : mi_W d 49 57 [some (.ref l1), some (.int l2), some (.int l3), o4, o5] [.ref s6] (n, sl, f) Q := by
  refine w_iconst (v := 1) cd_49_57 (by decide) ?_
  exact w_goto cd_49_58 (by decide) h7
theorem b_49_61 {d : Nat} {Q : (Option Value ⊕ Nat) → mi_H → Prop} (n sl : Nat) (f : Nat → mi_C) {l1 : Nat} {l2 : Int32} {l3 : Int32} {o4 : Option Value} {o5 : Option Value} {s6 : Nat} (h7 : mi_W d 49 62 [some (.ref l1), some (.int l2), some (.int l3), o4, o5] [.int 0, .ref s6] (n, sl, f) Q) : mi_W d 49 61 [some (.ref l1), some (.int l2), some (.int l3), o4, o5] [.ref s6] (n, sl, f) Q := by
  refine w_iconst (v := 0) cd_49_61 (by decide) ?_
  exact h7
theorem b_49_62 {d : Nat} {Q : (Option Value ⊕ Nat) → mi_H → Prop} (n sl : Nat) (f : Nat → mi_C) {l1 : Nat} {l2 : Int32} {l3 : Int32} {o4 : Option Value} {o5 : Option Value} {s6 : Int32} {s7 : Nat} {fs8 : List Value} (h9 : f s7 = .inr (3, fs8)) (h10 : s7 < n) (h11 : mi_W d 38 0 (mi_en 2 [.ref s7, .int s6]) [] (n, sl, f) (mi_Kc d 49 62 [some (.ref l1), some (.int l2), some (.int l3), o4, o5] [] Q)) : mi_W (d + 1) 49 62 [some (.ref l1), some (.int l2), some (.int l3), o4, o5] [.int s6, .ref s7] (n, sl, f) Q := by
  exact w_invokevirtual cd_49_62 (show mt_m 3 70 = some (38, 0) by decide +kernel) (rest := []) rfl (as := [.ref s7, .int s6]) rfl h9 (Or.inl h10) ⟨Nat.le_of_ble_eq_true rfl, Nat.le_of_ble_eq_true rfl, Nat.le_of_ble_eq_true rfl⟩ h11
theorem b_49_65 {d : Nat} {Q : (Option Value ⊕ Nat) → mi_H → Prop} (n sl : Nat) (f : Nat → mi_C) {l1 : Nat} {l2 : Int32} {l3 : Int32} {o4 : Option Value} {o5 : Option Value} {fs6 : List Value} {x9 : Nat} {fs11 : List Value} {x14 : Nat} {fs16 : List Value} {x19 : Nat} {fs21 : List Value} {x24 : Int32} {fs26 : List Value} {x29 : Nat} {fs31 : List Value} {x34 : Int32} {fs36 : List Value} (h7 : f l1 = .inr (3, fs6)) (h8 : l1 < n) (h10 : fs6[4]? = some (.ref x9)) (h12 : f l1 = .inr (3, fs11)) (h13 : l1 < n) (h15 : fs11[2]? = some (.ref x14)) (h17 : f l1 = .inr (3, fs16)) (h18 : l1 < n) (h20 : fs16[0]? = some (.ref x19)) (h22 : f x19 = .inr (1, fs21)) (h23 : x19 < n) (h25 : fs21[3]? = some (.int x24)) (h27 : f l1 = .inr (3, fs26)) (h28 : l1 < n) (h30 : fs26[0]? = some (.ref x29)) (h32 : f x29 = .inr (1, fs31)) (h33 : x29 < n) (h35 : fs31[4]? = some (.int x34)) (h37 : f x14 = .inr (4, fs36)) (h38 : x14 < n) (h39 : mi_W d 44 0 (mi_en 5 [.ref x14, .int x24, .int x34, .int (-1)]) [] (n, sl, f) (mi_Kc d 49 90 [some (.ref l1), some (.int l2), some (.int l3), o4, o5] [.int l3, .int l2, .ref x9] Q)) : mi_W (d + 1) 49 65 [some (.ref l1), some (.int l2), some (.int l3), o4, o5] [] (n, sl, f) Q := by
  refine w_aload_n cd_49_65 rfl ?_
  refine w_getfield cd_49_66 (show mt_f 3 41 = some (3, 4) by decide +kernel) h7 h8 h10 ?_
  refine w_iload_n cd_49_69 rfl ?_
  refine w_iload_n cd_49_70 rfl ?_
  refine w_aload_n cd_49_71 rfl ?_
  refine w_getfield cd_49_72 (show mt_f 3 34 = some (3, 2) by decide +kernel) h12 h13 h15 ?_
  refine w_aload_n cd_49_75 rfl ?_
  refine w_getfield cd_49_76 (show mt_f 3 15 = some (3, 0) by decide +kernel) h17 h18 h20 ?_
  refine w_getfield cd_49_79 (show mt_f 3 74 = some (1, 3) by decide +kernel) h22 h23 h25 ?_
  refine w_aload_n cd_49_82 rfl ?_
  refine w_getfield cd_49_83 (show mt_f 3 15 = some (3, 0) by decide +kernel) h27 h28 h30 ?_
  refine w_getfield cd_49_86 (show mt_f 3 170 = some (1, 4) by decide +kernel) h32 h33 h35 ?_
  refine w_iconst (v := (-1)) cd_49_89 (by decide) ?_
  exact w_invokevirtual cd_49_90 (show mt_m 3 173 = some (44, 0) by decide +kernel) (rest := [.int l3, .int l2, .ref x9]) rfl (as := [.ref x14, .int x24, .int x34, .int (-1)]) rfl h37 (Or.inl h38) ⟨Nat.le_of_ble_eq_true rfl, Nat.le_of_ble_eq_true rfl, Nat.le_of_ble_eq_true rfl⟩ h39
theorem b_49_93 {d : Nat} {Q : (Option Value ⊕ Nat) → mi_H → Prop} (n sl : Nat) (f : Nat → mi_C) {l1 : Nat} {l2 : Int32} {l3 : Int32} {o4 : Option Value} {o5 : Option Value} {s6 : Int32} {s7 : Int32} {s8 : Int32} {s9 : Nat} {fs10 : List Value} (h11 : f s9 = .inr (4, fs10)) (h12 : s9 < n) (h13 : mi_W d 44 0 (mi_en 5 [.ref s9, .int s8, .int s7, .int s6]) [] (n, sl, f) (mi_Kc d 49 93 [some (.ref l1), some (.int l2), some (.int l3), o4, o5] [] Q)) : mi_W (d + 1) 49 93 [some (.ref l1), some (.int l2), some (.int l3), o4, o5] [.int s6, .int s7, .int s8, .ref s9] (n, sl, f) Q := by
  exact w_invokevirtual cd_49_93 (show mt_m 3 173 = some (44, 0) by decide +kernel) (rest := []) rfl (as := [.ref s9, .int s8, .int s7, .int s6]) rfl h11 (Or.inl h12) ⟨Nat.le_of_ble_eq_true rfl, Nat.le_of_ble_eq_true rfl, Nat.le_of_ble_eq_true rfl⟩ h13
theorem b_49_96 {d : Nat} {Q : (Option Value ⊕ Nat) → mi_H → Prop} (n sl : Nat) (f : Nat → mi_C) {l1 : Nat} {l2 : Int32} {l3 : Int32} {o4 : Option Value} {o5 : Option Value} {s6 : Int32} (h7 : ¬ s6 = ((-1)) → mi_W d 49 114 [some (.ref l1), some (.int l2), some (.int l3), some (.int s6), o5] [.int l2, .ref l1] (n, sl, f) Q) (h8 : ¬ (¬ s6 = ((-1))) → mi_W d 49 104 [some (.ref l1), some (.int l2), some (.int l3), some (.int s6), o5] [.int l2, .ref l1] (n, sl, f) Q) : mi_W d 49 96 [some (.ref l1), some (.int l2), some (.int l3), o4, o5] [.int s6] (n, sl, f) Q := by
  refine w_istore_n (ls' := [some (.ref l1), some (.int l2), some (.int l3), some (.int s6), o5]) cd_49_96 (Nat.le_of_ble_eq_true rfl) rfl ?_
  refine w_aload_n cd_49_97 rfl ?_
  refine w_iload_n cd_49_98 rfl ?_
  refine w_iload_n cd_49_99 rfl ?_
  refine w_iconst (v := (-1)) cd_49_100 (by decide) ?_
  exact w_if_icmpne cd_49_101 (by decide) h7 h8
theorem b_49_104 {d : Nat} {Q : (Option Value ⊕ Nat) → mi_H → Prop} (n sl : Nat) (f : Nat → mi_C) {l1 : Nat} {l2 : Int32} {l3 : Int32} {l4 : Int32} {o5 : Option Value} {s6 : Int32} {s7 : Nat} {fs8 : List Value} {x11 : Nat} {fs13 : List Value} (h9 : f l1 = .inr (3, fs8)) (h10 : l1 < n) (h12 : fs8[4]? = some (.ref x11)) (h14 : f x11 = .inr (4, fs13)) (h15 : x11 < n) (h16 : mi_W d 46 0 (mi_en 1 [.ref x11]) [] (n, sl, f) (mi_Kc d 49 108 [some (.ref l1), some (.int l2), some (.int l3), some (.int l4), o5] [.int s6, .ref s7] Q)) : mi_W (d + 1) 49 104 [some (.ref l1), some (.int l2), some (.int l3), some (.int l4), o5] [.int s6, .ref s7] (n, sl, f) Q := by
  refine w_aload_n cd_49_104 rfl ?_
  refine w_getfield cd_49_105 (show mt_f 3 41 = some (3, 4) by decide +kernel) h9 h10 h12 ?_
  exact w_invokevirtual cd_49_108 (show mt_m 3 176 = some (46, 0) by decide +kernel) (rest := [.int s6, .ref s7]) rfl (as := [.ref x11]) rfl h14 (Or.inl h15) ⟨Nat.le_of_ble_eq_true rfl, Nat.le_of_ble_eq_true rfl, Nat.le_of_ble_eq_true rfl⟩ h16
theorem b_49_111 {d : Nat} {Q : (Option Value ⊕ Nat) → mi_H → Prop} (n sl : Nat) (f : Nat → mi_C) {l1 : Nat} {l2 : Int32} {l3 : Int32} {l4 : Int32} {o5 : Option Value} {s6 : Int32} {s7 : Int32} {s8 : Nat} (h9 : s6 = (0 : Int32) → mi_W d 49 118 [some (.ref l1), some (.int l2), some (.int l3), some (.int l4), o5] [.int s7, .ref s8] (n, sl, f) Q) (h10 : ¬ (s6 = (0 : Int32)) → mi_W d 49 114 [some (.ref l1), some (.int l2), some (.int l3), some (.int l4), o5] [.int s7, .ref s8] (n, sl, f) Q) : mi_W d 49 111 [some (.ref l1), some (.int l2), some (.int l3), some (.int l4), o5] [.int s6, .int s7, .ref s8] (n, sl, f) Q := by
  exact w_ifeq cd_49_111 (by decide) h9 h10
theorem b_49_114 {d : Nat} {Q : (Option Value ⊕ Nat) → mi_H → Prop} (n sl : Nat) (f : Nat → mi_C) {l1 : Nat} {l2 : Int32} {l3 : Int32} {l4 : Int32} {o5 : Option Value} {s6 : Int32} {s7 : Nat} (h8 : mi_W d 49 119 [some (.ref l1), some (.int l2), some (.int l3), some (.int l4), o5] [.int 1, .int s6, .ref s7] (n, sl, f) Q) : mi_W d 49 114 [some (.ref l1), some (.int l2), some (.int l3), some (.int l4), o5] [.int s6, .ref s7] (n, sl, f) Q := by
  refine w_iconst (v := 1) cd_49_114 (by decide) ?_
  exact w_goto cd_49_115 (by decide) h8
theorem b_49_118 {d : Nat} {Q : (Option Value ⊕ Nat) → mi_H → Prop} (n sl : Nat) (f : Nat → mi_C) {l1 : Nat} {l2 : Int32} {l3 : Int32} {l4 : Int32} {o5 : Option Value} {s6 : Int32} {s7 : Nat} (h8 : mi_W d 49 119 [some (.ref l1), some (.int l2), some (.int l3), some (.int l4), o5] [.int 0, .int s6, .ref s7] (n, sl, f) Q) : mi_W d 49 118 [some (.ref l1), some (.int l2), some (.int l3), some (.int l4), o5] [.int s6, .ref s7] (n, sl, f) Q := by
  refine w_iconst (v := 0) cd_49_118 (by decide) ?_
  exact h8
theorem b_49_119 {d : Nat} {Q : (Option Value ⊕ Nat) → mi_H → Prop} (n sl : Nat) (f : Nat → mi_C) {l1 : Nat} {l2 : Int32} {l3 : Int32} {l4 : Int32} {o5 : Option Value} {s6 : Int32} {s7 : Int32} {s8 : Nat} {fs9 : List Value} (h10 : f s8 = .inr (3, fs9)) (h11 : s8 < n) (h12 : mi_W d 21 0 (mi_en 3 [.ref s8, .int s7, .int s6]) [] (n, sl, f) (mi_Kc d 49 119 [some (.ref l1), some (.int l2), some (.int l3), some (.int l4), o5] [] Q)) : mi_W (d + 1) 49 119 [some (.ref l1), some (.int l2), some (.int l3), some (.int l4), o5] [.int s6, .int s7, .ref s8] (n, sl, f) Q := by
  exact w_invokevirtual cd_49_119 (show mt_m 3 59 = some (21, 0) by decide +kernel) (rest := []) rfl (as := [.ref s8, .int s7, .int s6]) rfl h10 (Or.inl h11) ⟨Nat.le_of_ble_eq_true rfl, Nat.le_of_ble_eq_true rfl, Nat.le_of_ble_eq_true rfl⟩ h12
theorem b_49_122 {d : Nat} {Q : (Option Value ⊕ Nat) → mi_H → Prop} (n sl : Nat) (f : Nat → mi_C) {l1 : Nat} {l2 : Int32} {l3 : Int32} {l4 : Int32} {o5 : Option Value} {fs6 : List Value} {x9 : Nat} {fs11 : List Value} (h7 : f l1 = .inr (3, fs6)) (h8 : l1 < n) (h10 : fs6[2]? = some (.ref x9)) (h12 : f l1 = .inr (3, fs11)) (h13 : l1 < n) (h14 : mi_W d 43 0 (mi_en 3 [.ref l1, .ref x9]) [] (n, sl, f) (mi_Kc d 49 127 [some (.ref l1), some (.int l2), some (.int l3), some (.int l4), o5] [] Q)) : mi_W (d + 1) 49 122 [some (.ref l1), some (.int l2), some (.int l3), some (.int l4), o5] [] (n, sl, f) Q := by
  refine w_aload_n cd_49_122 rfl ?_
  refine w_aload_n cd_49_123 rfl ?_
  refine w_getfield cd_49_124 (show mt_f 3 34 = some (3, 2) by decide +kernel) h7 h8 h10 ?_
  exact w_invokevirtual cd_49_127 (show mt_m 3 131 = some (43, 0) by decide +kernel) (rest := []) rfl (as := [.ref l1, .ref x9]) rfl h12 (Or.inl h13) ⟨Nat.le_of_ble_eq_true rfl, Nat.le_of_ble_eq_true rfl, Nat.le_of_ble_eq_true rfl⟩ h14
theorem b_49_130 {d : Nat} {Q : (Option Value ⊕ Nat) → mi_H → Prop} (n sl : Nat) (f : Nat → mi_C) {l1 : Nat} {l2 : Int32} {l3 : Int32} {l4 : Int32} {o5 : Option Value} {s6 : Int32} (h7 : l4 = ((-1)) → mi_W d 49 141 [some (.ref l1), some (.int l2), some (.int l3), some (.int l4), some (.int s6)] [] (n, sl, f) Q) (h8 : ¬ (l4 = ((-1))) → mi_W d 49 137 [some (.ref l1), some (.int l2), some (.int l3), some (.int l4), some (.int s6)] [] (n, sl, f) Q) : mi_W d 49 130 [some (.ref l1), some (.int l2), some (.int l3), some (.int l4), o5] [.int s6] (n, sl, f) Q := by
  refine w_istore (ls' := [some (.ref l1), some (.int l2), some (.int l3), some (.int l4), some (.int s6)]) cd_49_130 (Nat.le_of_ble_eq_true rfl) rfl ?_
  refine w_iload_n cd_49_132 rfl ?_
  refine w_iconst (v := (-1)) cd_49_133 (by decide) ?_
  exact w_if_icmpeq cd_49_134 (by decide) h7 h8
theorem b_49_137 {d : Nat} {Q : (Option Value ⊕ Nat) → mi_H → Prop} (n sl : Nat) (f : Nat → mi_C) {l1 : Nat} {l2 : Int32} {l3 : Int32} {l4 : Int32} {l5 : Int32} (h6 : mi_W d 49 152 [some (.ref l1), some (.int l2), some (.int l3), some (.int l4), some (.int l5)] [.int l4] (n, sl, f) Q) : mi_W d 49 137 [some (.ref l1), some (.int l2), some (.int l3), some (.int l4), some (.int l5)] [] (n, sl, f) Q := by
  refine w_iload_n cd_49_137 rfl ?_
  exact w_goto cd_49_138 (by decide) h6
theorem b_49_141 {d : Nat} {Q : (Option Value ⊕ Nat) → mi_H → Prop} (n sl : Nat) (f : Nat → mi_C) {l1 : Nat} {l2 : Int32} {l3 : Int32} {l4 : Int32} {l5 : Int32} {fs6 : List Value} {x9 : Nat} {fs11 : List Value} (h7 : f l1 = .inr (3, fs6)) (h8 : l1 < n) (h10 : fs6[4]? = some (.ref x9)) (h12 : f x9 = .inr (4, fs11)) (h13 : x9 < n) (h14 : mi_W d 47 0 (mi_en 4 [.ref x9, .int l2, .int l3, .int l5]) [] (n, sl, f) (mi_Kc d 49 149 [some (.ref l1), some (.int l2), some (.int l3), some (.int l4), some (.int l5)] [] Q)) : mi_W (d + 1) 49 141 [some (.ref l1), some (.int l2), some (.int l3), some (.int l4), some (.int l5)] [] (n, sl, f) Q := by
  refine w_aload_n cd_49_141 rfl ?_
  refine w_getfield cd_49_142 (show mt_f 3 41 = some (3, 4) by decide +kernel) h7 h8 h10 ?_
  refine w_iload_n cd_49_145 rfl ?_
  refine w_iload_n cd_49_146 rfl ?_
  refine w_iload cd_49_147 rfl ?_
  exact w_invokevirtual cd_49_149 (show mt_m 3 180 = some (47, 0) by decide +kernel) (rest := []) rfl (as := [.ref x9, .int l2, .int l3, .int l5]) rfl h12 (Or.inl h13) ⟨Nat.le_of_ble_eq_true rfl, Nat.le_of_ble_eq_true rfl, Nat.le_of_ble_eq_true rfl⟩ h14
theorem b_49_152 {d : Nat} {Q : (Option Value ⊕ Nat) → mi_H → Prop} (n sl : Nat) (f : Nat → mi_C) {l1 : Nat} {l2 : Int32} {l3 : Int32} {l4 : Int32} {l5 : Int32} {s6 : Int32} (h7 : Q (.inl (some (.int s6))) (n, sl, f)) : mi_W d 49 152 [some (.ref l1), some (.int l2), some (.int l3), some (.int l4), some (.int l5)] [.int s6] (n, sl, f) Q := by
  exact w_ireturn_i cd_49_152 (by decide +kernel) h7
/-! MarloweHost$Reader.readTruth(I)I -/
set_option maxRecDepth 100000 in
theorem mq_50 : mt_q 50 = my_50 := rfl
set_option maxRecDepth 100000 in
theorem ci_50 : mt_inc 0 my_50.cd = true := by decide +kernel
theorem cd_50_0 : mt_cd 50 0 = some (.aload_n 0) := mt_cd_of (q := (0, .aload_n 0, 1)) mq_50 ci_50 (List.mem_append_left _ (show _ ∈ my_50_0 from List.mem_of_getElem? (i := 0) rfl))
theorem cd_50_1 : mt_cd 50 1 = some (.iload_n 1) := mt_cd_of (q := (1, .iload_n 1, 1)) mq_50 ci_50 (List.mem_append_left _ (show _ ∈ my_50_0 from List.mem_of_getElem? (i := 1) rfl))
theorem cd_50_2 : mt_cd 50 2 = some (.bipush 100) := mt_cd_of (q := (2, .bipush 100, 2)) mq_50 ci_50 (List.mem_append_left _ (show _ ∈ my_50_0 from List.mem_of_getElem? (i := 2) rfl))
theorem cd_50_4 : mt_cd 50 4 = some (.if_icmp .gt 7) := mt_cd_of (q := (4, .if_icmp .gt 7, 3)) mq_50 ci_50 (List.mem_append_left _ (show _ ∈ my_50_0 from List.mem_of_getElem? (i := 3) rfl))
theorem cd_50_7 : mt_cd 50 7 = some (.iconst 1) := mt_cd_of (q := (7, .iconst 1, 1)) mq_50 ci_50 (List.mem_append_left _ (show _ ∈ my_50_0 from List.mem_of_getElem? (i := 4) rfl))
theorem cd_50_8 : mt_cd 50 8 = some (.goto 4) := mt_cd_of (q := (8, .goto 4, 3)) mq_50 ci_50 (List.mem_append_left _ (show _ ∈ my_50_0 from List.mem_of_getElem? (i := 5) rfl))
theorem cd_50_11 : mt_cd 50 11 = some (.iconst 0) := mt_cd_of (q := (11, .iconst 0, 1)) mq_50 ci_50 (List.mem_append_left _ (show _ ∈ my_50_0 from List.mem_of_getElem? (i := 6) rfl))
theorem cd_50_12 : mt_cd 50 12 = some (.invokevirtual 70) := mt_cd_of (q := (12, .invokevirtual 70, 3)) mq_50 ci_50 (List.mem_append_left _ (show _ ∈ my_50_0 from List.mem_of_getElem? (i := 7) rfl))
theorem cd_50_15 : mt_cd 50 15 = some (.aload_n 0) := mt_cd_of (q := (15, .aload_n 0, 1)) mq_50 ci_50 (List.mem_append_left _ (show _ ∈ my_50_0 from List.mem_of_getElem? (i := 8) rfl))
theorem cd_50_16 : mt_cd 50 16 = some (.getfield 15) := mt_cd_of (q := (16, .getfield 15, 3)) mq_50 ci_50 (List.mem_append_left _ (show _ ∈ my_50_0 from List.mem_of_getElem? (i := 9) rfl))
theorem cd_50_19 : mt_cd 50 19 = some (.getfield 67) := mt_cd_of (q := (19, .getfield 67, 3)) mq_50 ci_50 (List.mem_append_left _ (show _ ∈ my_50_0 from List.mem_of_getElem? (i := 10) rfl))
theorem cd_50_22 : mt_cd 50 22 = some (.bipush 24) := mt_cd_of (q := (22, .bipush 24, 2)) mq_50 ci_50 (List.mem_append_left _ (show _ ∈ my_50_0 from List.mem_of_getElem? (i := 11) rfl))
theorem cd_50_24 : mt_cd 50 24 = some (.if_icmp .ne 26) := mt_cd_of (q := (24, .if_icmp .ne 26, 3)) mq_50 ci_50 (List.mem_append_left _ (show _ ∈ my_50_0 from List.mem_of_getElem? (i := 12) rfl))
theorem cd_50_27 : mt_cd 50 27 = some (.aload_n 0) := mt_cd_of (q := (27, .aload_n 0, 1)) mq_50 ci_50 (List.mem_append_left _ (show _ ∈ my_50_0 from List.mem_of_getElem? (i := 13) rfl))
theorem cd_50_28 : mt_cd 50 28 = some (.getfield 15) := mt_cd_of (q := (28, .getfield 15, 3)) mq_50 ci_50 (List.mem_append_left _ (show _ ∈ my_50_0 from List.mem_of_getElem? (i := 14) rfl))
theorem cd_50_31 : mt_cd 50 31 = some (.invokevirtual 84) := mt_cd_of (q := (31, .invokevirtual 84, 3)) mq_50 ci_50 (List.mem_append_left _ (show _ ∈ my_50_0 from List.mem_of_getElem? (i := 15) rfl))
theorem cd_50_34 : mt_cd 50 34 = some (.aload_n 0) := mt_cd_of (q := (34, .aload_n 0, 1)) mq_50 ci_50 (List.mem_append_left _ (show _ ∈ my_50_0 from List.mem_of_getElem? (i := 16) rfl))
theorem cd_50_35 : mt_cd 50 35 = some (.iload_n 1) := mt_cd_of (q := (35, .iload_n 1, 1)) mq_50 ci_50 (List.mem_append_left _ (show _ ∈ my_50_0 from List.mem_of_getElem? (i := 17) rfl))
theorem cd_50_36 : mt_cd 50 36 = some (.iconst 1) := mt_cd_of (q := (36, .iconst 1, 1)) mq_50 ci_50 (List.mem_append_left _ (show _ ∈ my_50_0 from List.mem_of_getElem? (i := 18) rfl))
theorem cd_50_37 : mt_cd 50 37 = some (.iadd) := mt_cd_of (q := (37, .iadd, 1)) mq_50 ci_50 (List.mem_append_left _ (show _ ∈ my_50_0 from List.mem_of_getElem? (i := 19) rfl))
theorem cd_50_38 : mt_cd 50 38 = some (.invokevirtual 135) := mt_cd_of (q := (38, .invokevirtual 135, 3)) mq_50 ci_50 (List.mem_append_left _ (show _ ∈ my_50_0 from List.mem_of_getElem? (i := 20) rfl))
theorem cd_50_41 : mt_cd 50 41 = some (.istore_n 2) := mt_cd_of (q := (41, .istore_n 2, 1)) mq_50 ci_50 (List.mem_append_left _ (show _ ∈ my_50_0 from List.mem_of_getElem? (i := 21) rfl))
theorem cd_50_42 : mt_cd 50 42 = some (.aload_n 0) := mt_cd_of (q := (42, .aload_n 0, 1)) mq_50 ci_50 (List.mem_append_left _ (show _ ∈ my_50_0 from List.mem_of_getElem? (i := 22) rfl))
theorem cd_50_43 : mt_cd 50 43 = some (.bipush 25) := mt_cd_of (q := (43, .bipush 25, 2)) mq_50 ci_50 (List.mem_append_left _ (show _ ∈ my_50_0 from List.mem_of_getElem? (i := 23) rfl))
theorem cd_50_45 : mt_cd 50 45 = some (.invokevirtual 99) := mt_cd_of (q := (45, .invokevirtual 99, 3)) mq_50 ci_50 (List.mem_append_left _ (show _ ∈ my_50_0 from List.mem_of_getElem? (i := 24) rfl))
theorem cd_50_48 : mt_cd 50 48 = some (.iload_n 2) := mt_cd_of (q := (48, .iload_n 2, 1)) mq_50 ci_50 (List.mem_append_left _ (show _ ∈ my_50_0 from List.mem_of_getElem? (i := 25) rfl))
theorem cd_50_49 : mt_cd 50 49 = some (.ireturn) := mt_cd_of (q := (49, .ireturn, 1)) mq_50 ci_50 (List.mem_append_left _ (show _ ∈ my_50_0 from List.mem_of_getElem? (i := 26) rfl))
theorem cd_50_50 : mt_cd 50 50 = some (.aload_n 0) := mt_cd_of (q := (50, .aload_n 0, 1)) mq_50 ci_50 (List.mem_append_left _ (show _ ∈ my_50_0 from List.mem_of_getElem? (i := 27) rfl))
theorem cd_50_51 : mt_cd 50 51 = some (.getfield 15) := mt_cd_of (q := (51, .getfield 15, 3)) mq_50 ci_50 (List.mem_append_left _ (show _ ∈ my_50_0 from List.mem_of_getElem? (i := 28) rfl))
theorem cd_50_54 : mt_cd 50 54 = some (.getfield 67) := mt_cd_of (q := (54, .getfield 67, 3)) mq_50 ci_50 (List.mem_append_left _ (show _ ∈ my_50_0 from List.mem_of_getElem? (i := 29) rfl))
theorem cd_50_57 : mt_cd 50 57 = some (.istore_n 2) := mt_cd_of (q := (57, .istore_n 2, 1)) mq_50 ci_50 (List.mem_append_left _ (show _ ∈ my_50_0 from List.mem_of_getElem? (i := 30) rfl))
theorem cd_50_58 : mt_cd 50 58 = some (.iload_n 2) := mt_cd_of (q := (58, .iload_n 2, 1)) mq_50 ci_50 (List.mem_append_left _ (show _ ∈ my_50_0 from List.mem_of_getElem? (i := 31) rfl))
theorem cd_50_59 : mt_cd 50 59 = some (.bipush 32) := mt_cd_of (q := (59, .bipush 32, 2)) mq_50 ci_50 (List.mem_append_left _ (show _ ∈ my_50_0 from List.mem_of_getElem? (i := 32) rfl))
theorem cd_50_61 : mt_cd 50 61 = some (.if_icmp .lt 13) := mt_cd_of (q := (61, .if_icmp .lt 13, 3)) mq_50 ci_50 (List.mem_append_left _ (show _ ∈ my_50_0 from List.mem_of_getElem? (i := 33) rfl))
theorem cd_50_64 : mt_cd 50 64 = some (.iload_n 2) := mt_cd_of (q := (64, .iload_n 2, 1)) mq_50 ci_50 (List.mem_append_left _ (show _ ∈ my_50_0 from List.mem_of_getElem? (i := 34) rfl))
theorem cd_50_65 : mt_cd 50 65 = some (.bipush 36) := mt_cd_of (q := (65, .bipush 36, 2)) mq_50 ci_50 (List.mem_append_left _ (show _ ∈ my_50_0 from List.mem_of_getElem? (i := 35) rfl))
theorem cd_50_67 : mt_cd 50 67 = some (.if_icmp .gt 7) := mt_cd_of (q := (67, .if_icmp .gt 7, 3)) mq_50 ci_50 (List.mem_append_left _ (show _ ∈ my_50_0 from List.mem_of_getElem? (i := 36) rfl))
theorem cd_50_70 : mt_cd 50 70 = some (.iconst 1) := mt_cd_of (q := (70, .iconst 1, 1)) mq_50 ci_50 (List.mem_append_left _ (show _ ∈ my_50_0 from List.mem_of_getElem? (i := 37) rfl))
theorem cd_50_71 : mt_cd 50 71 = some (.goto 4) := mt_cd_of (q := (71, .goto 4, 3)) mq_50 ci_50 (List.mem_append_left _ (show _ ∈ my_50_0 from List.mem_of_getElem? (i := 38) rfl))
theorem cd_50_74 : mt_cd 50 74 = some (.iconst 0) := mt_cd_of (q := (74, .iconst 0, 1)) mq_50 ci_50 (List.mem_append_left _ (show _ ∈ my_50_0 from List.mem_of_getElem? (i := 39) rfl))
theorem cd_50_75 : mt_cd 50 75 = some (.istore_n 3) := mt_cd_of (q := (75, .istore_n 3, 1)) mq_50 ci_50 (List.mem_append_left _ (show _ ∈ my_50_0 from List.mem_of_getElem? (i := 40) rfl))
theorem cd_50_76 : mt_cd 50 76 = some (.aload_n 0) := mt_cd_of (q := (76, .aload_n 0, 1)) mq_50 ci_50 (List.mem_append_left _ (show _ ∈ my_50_0 from List.mem_of_getElem? (i := 41) rfl))
theorem cd_50_77 : mt_cd 50 77 = some (.iload_n 3) := mt_cd_of (q := (77, .iload_n 3, 1)) mq_50 ci_50 (List.mem_append_left _ (show _ ∈ my_50_0 from List.mem_of_getElem? (i := 42) rfl))
theorem cd_50_78 : mt_cd 50 78 = some (.ifCond .ne 15) := mt_cd_of (q := (78, .ifCond .ne 15, 3)) mq_50 ci_50 (List.mem_append_left _ (show _ ∈ my_50_0 from List.mem_of_getElem? (i := 43) rfl))
theorem cd_50_81 : mt_cd 50 81 = some (.iload_n 2) := mt_cd_of (q := (81, .iload_n 2, 1)) mq_50 ci_50 (List.mem_append_left _ (show _ ∈ my_50_0 from List.mem_of_getElem? (i := 44) rfl))
theorem cd_50_82 : mt_cd 50 82 = some (.bipush 18) := mt_cd_of (q := (82, .bipush 18, 2)) mq_50 ci_50 (List.mem_append_left _ (show _ ∈ my_50_0 from List.mem_of_getElem? (i := 45) rfl))
theorem cd_50_84 : mt_cd 50 84 = some (.if_icmp .lt 13) := mt_cd_of (q := (84, .if_icmp .lt 13, 3)) mq_50 ci_50 (List.mem_append_left _ (show _ ∈ my_50_0 from List.mem_of_getElem? (i := 46) rfl))
theorem cd_50_87 : mt_cd 50 87 = some (.iload_n 2) := mt_cd_of (q := (87, .iload_n 2, 1)) mq_50 ci_50 (List.mem_append_left _ (show _ ∈ my_50_0 from List.mem_of_getElem? (i := 47) rfl))
theorem cd_50_88 : mt_cd 50 88 = some (.bipush 23) := mt_cd_of (q := (88, .bipush 23, 2)) mq_50 ci_50 (List.mem_append_left _ (show _ ∈ my_50_0 from List.mem_of_getElem? (i := 48) rfl))
theorem cd_50_90 : mt_cd 50 90 = some (.if_icmp .gt 7) := mt_cd_of (q := (90, .if_icmp .gt 7, 3)) mq_50 ci_50 (List.mem_append_left _ (show _ ∈ my_50_0 from List.mem_of_getElem? (i := 49) rfl))
theorem cd_50_93 : mt_cd 50 93 = some (.iconst 1) := mt_cd_of (q := (93, .iconst 1, 1)) mq_50 ci_50 (List.mem_append_left _ (show _ ∈ my_50_0 from List.mem_of_getElem? (i := 50) rfl))
theorem cd_50_94 : mt_cd 50 94 = some (.goto 4) := mt_cd_of (q := (94, .goto 4, 3)) mq_50 ci_50 (List.mem_append_left _ (show _ ∈ my_50_0 from List.mem_of_getElem? (i := 51) rfl))
theorem cd_50_97 : mt_cd 50 97 = some (.iconst 0) := mt_cd_of (q := (97, .iconst 0, 1)) mq_50 ci_50 (List.mem_append_left _ (show _ ∈ my_50_0 from List.mem_of_getElem? (i := 52) rfl))
theorem cd_50_98 : mt_cd 50 98 = some (.invokevirtual 70) := mt_cd_of (q := (98, .invokevirtual 70, 3)) mq_50 ci_50 (List.mem_append_left _ (show _ ∈ my_50_0 from List.mem_of_getElem? (i := 53) rfl))
theorem cd_50_101 : mt_cd 50 101 = some (.aload_n 0) := mt_cd_of (q := (101, .aload_n 0, 1)) mq_50 ci_50 (List.mem_append_left _ (show _ ∈ my_50_0 from List.mem_of_getElem? (i := 54) rfl))
theorem cd_50_102 : mt_cd 50 102 = some (.invokevirtual 102) := mt_cd_of (q := (102, .invokevirtual 102, 3)) mq_50 ci_50 (List.mem_append_left _ (show _ ∈ my_50_0 from List.mem_of_getElem? (i := 55) rfl))
theorem cd_50_105 : mt_cd 50 105 = some (.istore 4) := mt_cd_of (q := (105, .istore 4, 2)) mq_50 ci_50 (List.mem_append_left _ (show _ ∈ my_50_0 from List.mem_of_getElem? (i := 56) rfl))
theorem cd_50_107 : mt_cd 50 107 = some (.iload_n 3) := mt_cd_of (q := (107, .iload_n 3, 1)) mq_50 ci_50 (List.mem_append_left _ (show _ ∈ my_50_0 from List.mem_of_getElem? (i := 57) rfl))
theorem cd_50_108 : mt_cd 50 108 = some (.ifCond .eq 40) := mt_cd_of (q := (108, .ifCond .eq 40, 3)) mq_50 ci_50 (List.mem_append_left _ (show _ ∈ my_50_0 from List.mem_of_getElem? (i := 58) rfl))
theorem cd_50_111 : mt_cd 50 111 = some (.aload_n 0) := mt_cd_of (q := (111, .aload_n 0, 1)) mq_50 ci_50 (List.mem_append_left _ (show _ ∈ my_50_0 from List.mem_of_getElem? (i := 59) rfl))
theorem cd_50_112 : mt_cd 50 112 = some (.getfield 19) := mt_cd_of (q := (112, .getfield 19, 3)) mq_50 ci_50 (List.mem_append_right _ (List.mem_append_left _ (show _ ∈ my_50_1 from List.mem_of_getElem? (i := 0) rfl)))
theorem cd_50_115 : mt_cd 50 115 = some (.getfield 109) := mt_cd_of (q := (115, .getfield 109, 3)) mq_50 ci_50 (List.mem_append_right _ (List.mem_append_left _ (show _ ∈ my_50_1 from List.mem_of_getElem? (i := 1) rfl)))
theorem cd_50_118 : mt_cd 50 118 = some (.iload 4) := mt_cd_of (q := (118, .iload 4, 2)) mq_50 ci_50 (List.mem_append_right _ (List.mem_append_left _ (show _ ∈ my_50_1 from List.mem_of_getElem? (i := 2) rfl)))
theorem cd_50_120 : mt_cd 50 120 = some (.aload_n 0) := mt_cd_of (q := (120, .aload_n 0, 1)) mq_50 ci_50 (List.mem_append_right _ (List.mem_append_left _ (show _ ∈ my_50_1 from List.mem_of_getElem? (i := 3) rfl)))
theorem cd_50_121 : mt_cd 50 121 = some (.iload_n 1) := mt_cd_of (q := (121, .iload_n 1, 1)) mq_50 ci_50 (List.mem_append_right _ (List.mem_append_left _ (show _ ∈ my_50_1 from List.mem_of_getElem? (i := 4) rfl)))
theorem cd_50_122 : mt_cd 50 122 = some (.iconst 1) := mt_cd_of (q := (122, .iconst 1, 1)) mq_50 ci_50 (List.mem_append_right _ (List.mem_append_left _ (show _ ∈ my_50_1 from List.mem_of_getElem? (i := 5) rfl)))
theorem cd_50_123 : mt_cd 50 123 = some (.iadd) := mt_cd_of (q := (123, .iadd, 1)) mq_50 ci_50 (List.mem_append_right _ (List.mem_append_left _ (show _ ∈ my_50_1 from List.mem_of_getElem? (i := 6) rfl)))
theorem cd_50_124 : mt_cd 50 124 = some (.invokevirtual 113) := mt_cd_of (q := (124, .invokevirtual 113, 3)) mq_50 ci_50 (List.mem_append_right _ (List.mem_append_left _ (show _ ∈ my_50_1 from List.mem_of_getElem? (i := 7) rfl)))
theorem cd_50_127 : mt_cd 50 127 = some (.iastore) := mt_cd_of (q := (127, .iastore, 1)) mq_50 ci_50 (List.mem_append_right _ (List.mem_append_left _ (show _ ∈ my_50_1 from List.mem_of_getElem? (i := 8) rfl)))
theorem cd_50_128 : mt_cd 50 128 = some (.aload_n 0) := mt_cd_of (q := (128, .aload_n 0, 1)) mq_50 ci_50 (List.mem_append_right _ (List.mem_append_left _ (show _ ∈ my_50_1 from List.mem_of_getElem? (i := 9) rfl)))
theorem cd_50_129 : mt_cd 50 129 = some (.getfield 19) := mt_cd_of (q := (129, .getfield 19, 3)) mq_50 ci_50 (List.mem_append_right _ (List.mem_append_left _ (show _ ∈ my_50_1 from List.mem_of_getElem? (i := 10) rfl)))
theorem cd_50_132 : mt_cd 50 132 = some (.getfield 141) := mt_cd_of (q := (132, .getfield 141, 3)) mq_50 ci_50 (List.mem_append_right _ (List.mem_append_left _ (show _ ∈ my_50_1 from List.mem_of_getElem? (i := 11) rfl)))
theorem cd_50_135 : mt_cd 50 135 = some (.iload 4) := mt_cd_of (q := (135, .iload 4, 2)) mq_50 ci_50 (List.mem_append_right _ (List.mem_append_left _ (show _ ∈ my_50_1 from List.mem_of_getElem? (i := 12) rfl)))
theorem cd_50_137 : mt_cd 50 137 = some (.aload_n 0) := mt_cd_of (q := (137, .aload_n 0, 1)) mq_50 ci_50 (List.mem_append_right _ (List.mem_append_left _ (show _ ∈ my_50_1 from List.mem_of_getElem? (i := 13) rfl)))
theorem cd_50_138 : mt_cd 50 138 = some (.iload_n 1) := mt_cd_of (q := (138, .iload_n 1, 1)) mq_50 ci_50 (List.mem_append_right _ (List.mem_append_left _ (show _ ∈ my_50_1 from List.mem_of_getElem? (i := 14) rfl)))
theorem cd_50_139 : mt_cd 50 139 = some (.iconst 1) := mt_cd_of (q := (139, .iconst 1, 1)) mq_50 ci_50 (List.mem_append_right _ (List.mem_append_left _ (show _ ∈ my_50_1 from List.mem_of_getElem? (i := 15) rfl)))
theorem cd_50_140 : mt_cd 50 140 = some (.iadd) := mt_cd_of (q := (140, .iadd, 1)) mq_50 ci_50 (List.mem_append_right _ (List.mem_append_left _ (show _ ∈ my_50_1 from List.mem_of_getElem? (i := 16) rfl)))
theorem cd_50_141 : mt_cd 50 141 = some (.invokevirtual 113) := mt_cd_of (q := (141, .invokevirtual 113, 3)) mq_50 ci_50 (List.mem_append_right _ (List.mem_append_left _ (show _ ∈ my_50_1 from List.mem_of_getElem? (i := 17) rfl)))
theorem cd_50_144 : mt_cd 50 144 = some (.iastore) := mt_cd_of (q := (144, .iastore, 1)) mq_50 ci_50 (List.mem_append_right _ (List.mem_append_left _ (show _ ∈ my_50_1 from List.mem_of_getElem? (i := 18) rfl)))
theorem cd_50_145 : mt_cd 50 145 = some (.goto 98) := mt_cd_of (q := (145, .goto 98, 3)) mq_50 ci_50 (List.mem_append_right _ (List.mem_append_left _ (show _ ∈ my_50_1 from List.mem_of_getElem? (i := 19) rfl)))
theorem cd_50_148 : mt_cd 50 148 = some (.iload_n 2) := mt_cd_of (q := (148, .iload_n 2, 1)) mq_50 ci_50 (List.mem_append_right _ (List.mem_append_left _ (show _ ∈ my_50_1 from List.mem_of_getElem? (i := 20) rfl)))
theorem cd_50_149 : mt_cd 50 149 = some (.bipush 20) := mt_cd_of (q := (149, .bipush 20, 2)) mq_50 ci_50 (List.mem_append_right _ (List.mem_append_left _ (show _ ∈ my_50_1 from List.mem_of_getElem? (i := 21) rfl)))
theorem cd_50_151 : mt_cd 50 151 = some (.if_icmp .eq 9) := mt_cd_of (q := (151, .if_icmp .eq 9, 3)) mq_50 ci_50 (List.mem_append_right _ (List.mem_append_left _ (show _ ∈ my_50_1 from List.mem_of_getElem? (i := 22) rfl)))
theorem cd_50_154 : mt_cd 50 154 = some (.iload_n 2) := mt_cd_of (q := (154, .iload_n 2, 1)) mq_50 ci_50 (List.mem_append_right _ (List.mem_append_left _ (show _ ∈ my_50_1 from List.mem_of_getElem? (i := 23) rfl)))
theorem cd_50_155 : mt_cd 50 155 = some (.bipush 21) := mt_cd_of (q := (155, .bipush 21, 2)) mq_50 ci_50 (List.mem_append_right _ (List.mem_append_left _ (show _ ∈ my_50_1 from List.mem_of_getElem? (i := 24) rfl)))
theorem cd_50_157 : mt_cd 50 157 = some (.if_icmp .ne 40) := mt_cd_of (q := (157, .if_icmp .ne 40, 3)) mq_50 ci_50 (List.mem_append_right _ (List.mem_append_left _ (show _ ∈ my_50_1 from List.mem_of_getElem? (i := 25) rfl)))
theorem cd_50_160 : mt_cd 50 160 = some (.aload_n 0) := mt_cd_of (q := (160, .aload_n 0, 1)) mq_50 ci_50 (List.mem_append_right _ (List.mem_append_left _ (show _ ∈ my_50_1 from List.mem_of_getElem? (i := 26) rfl)))
theorem cd_50_161 : mt_cd 50 161 = some (.getfield 19) := mt_cd_of (q := (161, .getfield 19, 3)) mq_50 ci_50 (List.mem_append_right _ (List.mem_append_left _ (show _ ∈ my_50_1 from List.mem_of_getElem? (i := 27) rfl)))
theorem cd_50_164 : mt_cd 50 164 = some (.getfield 109) := mt_cd_of (q := (164, .getfield 109, 3)) mq_50 ci_50 (List.mem_append_right _ (List.mem_append_left _ (show _ ∈ my_50_1 from List.mem_of_getElem? (i := 28) rfl)))
theorem cd_50_167 : mt_cd 50 167 = some (.iload 4) := mt_cd_of (q := (167, .iload 4, 2)) mq_50 ci_50 (List.mem_append_right _ (List.mem_append_left _ (show _ ∈ my_50_1 from List.mem_of_getElem? (i := 29) rfl)))
theorem cd_50_169 : mt_cd 50 169 = some (.aload_n 0) := mt_cd_of (q := (169, .aload_n 0, 1)) mq_50 ci_50 (List.mem_append_right _ (List.mem_append_left _ (show _ ∈ my_50_1 from List.mem_of_getElem? (i := 30) rfl)))
theorem cd_50_170 : mt_cd 50 170 = some (.iload_n 1) := mt_cd_of (q := (170, .iload_n 1, 1)) mq_50 ci_50 (List.mem_append_right _ (List.mem_append_left _ (show _ ∈ my_50_1 from List.mem_of_getElem? (i := 31) rfl)))
theorem cd_50_171 : mt_cd 50 171 = some (.iconst 1) := mt_cd_of (q := (171, .iconst 1, 1)) mq_50 ci_50 (List.mem_append_right _ (List.mem_append_left _ (show _ ∈ my_50_1 from List.mem_of_getElem? (i := 32) rfl)))
theorem cd_50_172 : mt_cd 50 172 = some (.iadd) := mt_cd_of (q := (172, .iadd, 1)) mq_50 ci_50 (List.mem_append_right _ (List.mem_append_left _ (show _ ∈ my_50_1 from List.mem_of_getElem? (i := 33) rfl)))
theorem cd_50_173 : mt_cd 50 173 = some (.invokevirtual 135) := mt_cd_of (q := (173, .invokevirtual 135, 3)) mq_50 ci_50 (List.mem_append_right _ (List.mem_append_left _ (show _ ∈ my_50_1 from List.mem_of_getElem? (i := 34) rfl)))
theorem cd_50_176 : mt_cd 50 176 = some (.iastore) := mt_cd_of (q := (176, .iastore, 1)) mq_50 ci_50 (List.mem_append_right _ (List.mem_append_left _ (show _ ∈ my_50_1 from List.mem_of_getElem? (i := 35) rfl)))
theorem cd_50_177 : mt_cd 50 177 = some (.aload_n 0) := mt_cd_of (q := (177, .aload_n 0, 1)) mq_50 ci_50 (List.mem_append_right _ (List.mem_append_left _ (show _ ∈ my_50_1 from List.mem_of_getElem? (i := 36) rfl)))
theorem cd_50_178 : mt_cd 50 178 = some (.getfield 19) := mt_cd_of (q := (178, .getfield 19, 3)) mq_50 ci_50 (List.mem_append_right _ (List.mem_append_left _ (show _ ∈ my_50_1 from List.mem_of_getElem? (i := 37) rfl)))
theorem cd_50_181 : mt_cd 50 181 = some (.getfield 141) := mt_cd_of (q := (181, .getfield 141, 3)) mq_50 ci_50 (List.mem_append_right _ (List.mem_append_left _ (show _ ∈ my_50_1 from List.mem_of_getElem? (i := 38) rfl)))
theorem cd_50_184 : mt_cd 50 184 = some (.iload 4) := mt_cd_of (q := (184, .iload 4, 2)) mq_50 ci_50 (List.mem_append_right _ (List.mem_append_left _ (show _ ∈ my_50_1 from List.mem_of_getElem? (i := 39) rfl)))
theorem cd_50_186 : mt_cd 50 186 = some (.aload_n 0) := mt_cd_of (q := (186, .aload_n 0, 1)) mq_50 ci_50 (List.mem_append_right _ (List.mem_append_left _ (show _ ∈ my_50_1 from List.mem_of_getElem? (i := 40) rfl)))
theorem cd_50_187 : mt_cd 50 187 = some (.iload_n 1) := mt_cd_of (q := (187, .iload_n 1, 1)) mq_50 ci_50 (List.mem_append_right _ (List.mem_append_left _ (show _ ∈ my_50_1 from List.mem_of_getElem? (i := 41) rfl)))
theorem cd_50_188 : mt_cd 50 188 = some (.iconst 1) := mt_cd_of (q := (188, .iconst 1, 1)) mq_50 ci_50 (List.mem_append_right _ (List.mem_append_left _ (show _ ∈ my_50_1 from List.mem_of_getElem? (i := 42) rfl)))
theorem cd_50_189 : mt_cd 50 189 = some (.iadd) := mt_cd_of (q := (189, .iadd, 1)) mq_50 ci_50 (List.mem_append_right _ (List.mem_append_left _ (show _ ∈ my_50_1 from List.mem_of_getElem? (i := 43) rfl)))
theorem cd_50_190 : mt_cd 50 190 = some (.invokevirtual 135) := mt_cd_of (q := (190, .invokevirtual 135, 3)) mq_50 ci_50 (List.mem_append_right _ (List.mem_append_left _ (show _ ∈ my_50_1 from List.mem_of_getElem? (i := 44) rfl)))
theorem cd_50_193 : mt_cd 50 193 = some (.iastore) := mt_cd_of (q := (193, .iastore, 1)) mq_50 ci_50 (List.mem_append_right _ (List.mem_append_left _ (show _ ∈ my_50_1 from List.mem_of_getElem? (i := 45) rfl)))
theorem cd_50_194 : mt_cd 50 194 = some (.goto 49) := mt_cd_of (q := (194, .goto 49, 3)) mq_50 ci_50 (List.mem_append_right _ (List.mem_append_left _ (show _ ∈ my_50_1 from List.mem_of_getElem? (i := 46) rfl)))
theorem cd_50_197 : mt_cd 50 197 = some (.iload_n 2) := mt_cd_of (q := (197, .iload_n 2, 1)) mq_50 ci_50 (List.mem_append_right _ (List.mem_append_left _ (show _ ∈ my_50_1 from List.mem_of_getElem? (i := 47) rfl)))
theorem cd_50_198 : mt_cd 50 198 = some (.bipush 22) := mt_cd_of (q := (198, .bipush 22, 2)) mq_50 ci_50 (List.mem_append_right _ (List.mem_append_left _ (show _ ∈ my_50_1 from List.mem_of_getElem? (i := 48) rfl)))
theorem cd_50_200 : mt_cd 50 200 = some (.if_icmp .ne 23) := mt_cd_of (q := (200, .if_icmp .ne 23, 3)) mq_50 ci_50 (List.mem_append_right _ (List.mem_append_left _ (show _ ∈ my_50_1 from List.mem_of_getElem? (i := 49) rfl)))
theorem cd_50_203 : mt_cd 50 203 = some (.aload_n 0) := mt_cd_of (q := (203, .aload_n 0, 1)) mq_50 ci_50 (List.mem_append_right _ (List.mem_append_left _ (show _ ∈ my_50_1 from List.mem_of_getElem? (i := 50) rfl)))
theorem cd_50_204 : mt_cd 50 204 = some (.getfield 19) := mt_cd_of (q := (204, .getfield 19, 3)) mq_50 ci_50 (List.mem_append_right _ (List.mem_append_left _ (show _ ∈ my_50_1 from List.mem_of_getElem? (i := 51) rfl)))
theorem cd_50_207 : mt_cd 50 207 = some (.getfield 109) := mt_cd_of (q := (207, .getfield 109, 3)) mq_50 ci_50 (List.mem_append_right _ (List.mem_append_left _ (show _ ∈ my_50_1 from List.mem_of_getElem? (i := 52) rfl)))
theorem cd_50_210 : mt_cd 50 210 = some (.iload 4) := mt_cd_of (q := (210, .iload 4, 2)) mq_50 ci_50 (List.mem_append_right _ (List.mem_append_left _ (show _ ∈ my_50_1 from List.mem_of_getElem? (i := 53) rfl)))
theorem cd_50_212 : mt_cd 50 212 = some (.aload_n 0) := mt_cd_of (q := (212, .aload_n 0, 1)) mq_50 ci_50 (List.mem_append_right _ (List.mem_append_left _ (show _ ∈ my_50_1 from List.mem_of_getElem? (i := 54) rfl)))
theorem cd_50_213 : mt_cd 50 213 = some (.iload_n 1) := mt_cd_of (q := (213, .iload_n 1, 1)) mq_50 ci_50 (List.mem_append_right _ (List.mem_append_left _ (show _ ∈ my_50_1 from List.mem_of_getElem? (i := 55) rfl)))
theorem cd_50_214 : mt_cd 50 214 = some (.iconst 1) := mt_cd_of (q := (214, .iconst 1, 1)) mq_50 ci_50 (List.mem_append_right _ (List.mem_append_left _ (show _ ∈ my_50_1 from List.mem_of_getElem? (i := 56) rfl)))
theorem cd_50_215 : mt_cd 50 215 = some (.iadd) := mt_cd_of (q := (215, .iadd, 1)) mq_50 ci_50 (List.mem_append_right _ (List.mem_append_left _ (show _ ∈ my_50_1 from List.mem_of_getElem? (i := 57) rfl)))
theorem cd_50_216 : mt_cd 50 216 = some (.invokevirtual 135) := mt_cd_of (q := (216, .invokevirtual 135, 3)) mq_50 ci_50 (List.mem_append_right _ (List.mem_append_left _ (show _ ∈ my_50_1 from List.mem_of_getElem? (i := 58) rfl)))
theorem cd_50_219 : mt_cd 50 219 = some (.iastore) := mt_cd_of (q := (219, .iastore, 1)) mq_50 ci_50 (List.mem_append_right _ (List.mem_append_left _ (show _ ∈ my_50_1 from List.mem_of_getElem? (i := 59) rfl)))
theorem cd_50_220 : mt_cd 50 220 = some (.goto 23) := mt_cd_of (q := (220, .goto 23, 3)) mq_50 ci_50 (List.mem_append_right _ (List.mem_append_right _ ((show _ ∈ my_50_2 from List.mem_of_getElem? (i := 0) rfl))))
theorem cd_50_223 : mt_cd 50 223 = some (.iload_n 2) := mt_cd_of (q := (223, .iload_n 2, 1)) mq_50 ci_50 (List.mem_append_right _ (List.mem_append_right _ ((show _ ∈ my_50_2 from List.mem_of_getElem? (i := 1) rfl))))
theorem cd_50_224 : mt_cd 50 224 = some (.bipush 23) := mt_cd_of (q := (224, .bipush 23, 2)) mq_50 ci_50 (List.mem_append_right _ (List.mem_append_right _ ((show _ ∈ my_50_2 from List.mem_of_getElem? (i := 2) rfl))))
theorem cd_50_226 : mt_cd 50 226 = some (.if_icmp .ne 17) := mt_cd_of (q := (226, .if_icmp .ne 17, 3)) mq_50 ci_50 (List.mem_append_right _ (List.mem_append_right _ ((show _ ∈ my_50_2 from List.mem_of_getElem? (i := 3) rfl))))
theorem cd_50_229 : mt_cd 50 229 = some (.aload_n 0) := mt_cd_of (q := (229, .aload_n 0, 1)) mq_50 ci_50 (List.mem_append_right _ (List.mem_append_right _ ((show _ ∈ my_50_2 from List.mem_of_getElem? (i := 4) rfl))))
theorem cd_50_230 : mt_cd 50 230 = some (.getfield 19) := mt_cd_of (q := (230, .getfield 19, 3)) mq_50 ci_50 (List.mem_append_right _ (List.mem_append_right _ ((show _ ∈ my_50_2 from List.mem_of_getElem? (i := 5) rfl))))
theorem cd_50_233 : mt_cd 50 233 = some (.getfield 128) := mt_cd_of (q := (233, .getfield 128, 3)) mq_50 ci_50 (List.mem_append_right _ (List.mem_append_right _ ((show _ ∈ my_50_2 from List.mem_of_getElem? (i := 6) rfl))))
theorem cd_50_236 : mt_cd 50 236 = some (.iload 4) := mt_cd_of (q := (236, .iload 4, 2)) mq_50 ci_50 (List.mem_append_right _ (List.mem_append_right _ ((show _ ∈ my_50_2 from List.mem_of_getElem? (i := 7) rfl))))
theorem cd_50_238 : mt_cd 50 238 = some (.aload_n 0) := mt_cd_of (q := (238, .aload_n 0, 1)) mq_50 ci_50 (List.mem_append_right _ (List.mem_append_right _ ((show _ ∈ my_50_2 from List.mem_of_getElem? (i := 8) rfl))))
theorem cd_50_239 : mt_cd 50 239 = some (.invokevirtual 157) := mt_cd_of (q := (239, .invokevirtual 157, 3)) mq_50 ci_50 (List.mem_append_right _ (List.mem_append_right _ ((show _ ∈ my_50_2 from List.mem_of_getElem? (i := 9) rfl))))
theorem cd_50_242 : mt_cd 50 242 = some (.iastore) := mt_cd_of (q := (242, .iastore, 1)) mq_50 ci_50 (List.mem_append_right _ (List.mem_append_right _ ((show _ ∈ my_50_2 from List.mem_of_getElem? (i := 10) rfl))))
theorem cd_50_243 : mt_cd 50 243 = some (.aload_n 0) := mt_cd_of (q := (243, .aload_n 0, 1)) mq_50 ci_50 (List.mem_append_right _ (List.mem_append_right _ ((show _ ∈ my_50_2 from List.mem_of_getElem? (i := 11) rfl))))
theorem cd_50_244 : mt_cd 50 244 = some (.getfield 19) := mt_cd_of (q := (244, .getfield 19, 3)) mq_50 ci_50 (List.mem_append_right _ (List.mem_append_right _ ((show _ ∈ my_50_2 from List.mem_of_getElem? (i := 12) rfl))))
theorem cd_50_247 : mt_cd 50 247 = some (.getfield 144) := mt_cd_of (q := (247, .getfield 144, 3)) mq_50 ci_50 (List.mem_append_right _ (List.mem_append_right _ ((show _ ∈ my_50_2 from List.mem_of_getElem? (i := 13) rfl))))
theorem cd_50_250 : mt_cd 50 250 = some (.iload 4) := mt_cd_of (q := (250, .iload 4, 2)) mq_50 ci_50 (List.mem_append_right _ (List.mem_append_right _ ((show _ ∈ my_50_2 from List.mem_of_getElem? (i := 14) rfl))))
theorem cd_50_252 : mt_cd 50 252 = some (.aload_n 0) := mt_cd_of (q := (252, .aload_n 0, 1)) mq_50 ci_50 (List.mem_append_right _ (List.mem_append_right _ ((show _ ∈ my_50_2 from List.mem_of_getElem? (i := 15) rfl))))
theorem cd_50_253 : mt_cd 50 253 = some (.getfield 19) := mt_cd_of (q := (253, .getfield 19, 3)) mq_50 ci_50 (List.mem_append_right _ (List.mem_append_right _ ((show _ ∈ my_50_2 from List.mem_of_getElem? (i := 16) rfl))))
theorem cd_50_256 : mt_cd 50 256 = some (.getfield 87) := mt_cd_of (q := (256, .getfield 87, 3)) mq_50 ci_50 (List.mem_append_right _ (List.mem_append_right _ ((show _ ∈ my_50_2 from List.mem_of_getElem? (i := 17) rfl))))
theorem cd_50_259 : mt_cd 50 259 = some (.iastore) := mt_cd_of (q := (259, .iastore, 1)) mq_50 ci_50 (List.mem_append_right _ (List.mem_append_right _ ((show _ ∈ my_50_2 from List.mem_of_getElem? (i := 18) rfl))))
theorem cd_50_260 : mt_cd 50 260 = some (.iload 4) := mt_cd_of (q := (260, .iload 4, 2)) mq_50 ci_50 (List.mem_append_right _ (List.mem_append_right _ ((show _ ∈ my_50_2 from List.mem_of_getElem? (i := 19) rfl))))
theorem cd_50_262 : mt_cd 50 262 = some (.ireturn) := mt_cd_of (q := (262, .ireturn, 1)) mq_50 ci_50 (List.mem_append_right _ (List.mem_append_right _ ((show _ ∈ my_50_2 from List.mem_of_getElem? (i := 20) rfl))))
theorem b_50_0 {d : Nat} {Q : (Option Value ⊕ Nat) → mi_H → Prop} (n sl : Nat) (f : Nat → mi_C) {l1 : Nat} {l2 : Int32} {o3 : Option Value} {o4 : Option Value} {o5 : Option Value} (h6 : 100 < l2 → mi_W d 50 11 [some (.ref l1), some (.int l2), o3, o4, o5] [.ref l1] (n, sl, f) Q) (h7 : ¬ (100 < l2) → mi_W d 50 7 [some (.ref l1), some (.int l2), o3, o4, o5] [.ref l1] (n, sl, f) Q) : mi_W d 50 0 [some (.ref l1), some (.int l2), o3, o4, o5] [] (n, sl, f) Q := by
  refine w_aload_n cd_50_0 rfl ?_
  refine w_iload_n cd_50_1 rfl ?_
  refine w_bipush (v := 100) cd_50_2 (by decide) ?_
  exact w_if_icmpgt cd_50_4 (by decide) h6 h7
theorem b_50_7 {d : Nat} {Q : (Option Value ⊕ Nat) → mi_H → Prop} (n sl : Nat) (f : Nat → mi_C) {l1 : Nat} {l2 : Int32} {o3 : Option Value} {o4 : Option Value} {o5 : Option Value} {s6 : Nat} (h7 : mi_W d 50 12 [some (.ref l1), some (.int l2), o3, o4, o5] [.int 1, .ref s6] (n, sl, f) Q) : mi_W d 50 7 [some (.ref l1), some (.int l2), o3, o4, o5] [.ref s6] (n, sl, f) Q := by
  refine w_iconst (v := 1) cd_50_7 (by decide) ?_
  exact w_goto cd_50_8 (by decide) h7
theorem b_50_11 {d : Nat} {Q : (Option Value ⊕ Nat) → mi_H → Prop} (n sl : Nat) (f : Nat → mi_C) {l1 : Nat} {l2 : Int32} {o3 : Option Value} {o4 : Option Value} {o5 : Option Value} {s6 : Nat} (h7 : mi_W d 50 12 [some (.ref l1), some (.int l2), o3, o4, o5] [.int 0, .ref s6] (n, sl, f) Q) : mi_W d 50 11 [some (.ref l1), some (.int l2), o3, o4, o5] [.ref s6] (n, sl, f) Q := by
  refine w_iconst (v := 0) cd_50_11 (by decide) ?_
  exact h7
theorem b_50_12 {d : Nat} {Q : (Option Value ⊕ Nat) → mi_H → Prop} (n sl : Nat) (f : Nat → mi_C) {l1 : Nat} {l2 : Int32} {o3 : Option Value} {o4 : Option Value} {o5 : Option Value} {s6 : Int32} {s7 : Nat} {fs8 : List Value} (h9 : f s7 = .inr (3, fs8)) (h10 : s7 < n) (h11 : mi_W d 38 0 (mi_en 2 [.ref s7, .int s6]) [] (n, sl, f) (mi_Kc d 50 12 [some (.ref l1), some (.int l2), o3, o4, o5] [] Q)) : mi_W (d + 1) 50 12 [some (.ref l1), some (.int l2), o3, o4, o5] [.int s6, .ref s7] (n, sl, f) Q := by
  exact w_invokevirtual cd_50_12 (show mt_m 3 70 = some (38, 0) by decide +kernel) (rest := []) rfl (as := [.ref s7, .int s6]) rfl h9 (Or.inl h10) ⟨Nat.le_of_ble_eq_true rfl, Nat.le_of_ble_eq_true rfl, Nat.le_of_ble_eq_true rfl⟩ h11
theorem b_50_15 {d : Nat} {Q : (Option Value ⊕ Nat) → mi_H → Prop} (n sl : Nat) (f : Nat → mi_C) {l1 : Nat} {l2 : Int32} {o3 : Option Value} {o4 : Option Value} {o5 : Option Value} {fs6 : List Value} {x9 : Nat} {fs11 : List Value} {x14 : Int32} (h7 : f l1 = .inr (3, fs6)) (h8 : l1 < n) (h10 : fs6[0]? = some (.ref x9)) (h12 : f x9 = .inr (1, fs11)) (h13 : x9 < n) (h15 : fs11[2]? = some (.int x14)) (h16 : ¬ x14 = 24 → mi_W d 50 50 [some (.ref l1), some (.int l2), o3, o4, o5] [] (n, sl, f) Q) (h17 : ¬ (¬ x14 = 24) → mi_W d 50 27 [some (.ref l1), some (.int l2), o3, o4, o5] [] (n, sl, f) Q) : mi_W d 50 15 [some (.ref l1), some (.int l2), o3, o4, o5] [] (n, sl, f) Q := by
  refine w_aload_n cd_50_15 rfl ?_
  refine w_getfield cd_50_16 (show mt_f 3 15 = some (3, 0) by decide +kernel) h7 h8 h10 ?_
  refine w_getfield cd_50_19 (show mt_f 3 67 = some (1, 2) by decide +kernel) h12 h13 h15 ?_
  refine w_bipush (v := 24) cd_50_22 (by decide) ?_
  exact w_if_icmpne cd_50_24 (by decide) h16 h17
theorem b_50_27 {d : Nat} {Q : (Option Value ⊕ Nat) → mi_H → Prop} (n sl : Nat) (f : Nat → mi_C) {l1 : Nat} {l2 : Int32} {o3 : Option Value} {o4 : Option Value} {o5 : Option Value} {fs6 : List Value} {x9 : Nat} {fs11 : List Value} (h7 : f l1 = .inr (3, fs6)) (h8 : l1 < n) (h10 : fs6[0]? = some (.ref x9)) (h12 : f x9 = .inr (1, fs11)) (h13 : x9 < n) (h14 : mi_W d 24 0 (mi_en 2 [.ref x9]) [] (n, sl, f) (mi_Kc d 50 31 [some (.ref l1), some (.int l2), o3, o4, o5] [] Q)) : mi_W (d + 1) 50 27 [some (.ref l1), some (.int l2), o3, o4, o5] [] (n, sl, f) Q := by
  refine w_aload_n cd_50_27 rfl ?_
  refine w_getfield cd_50_28 (show mt_f 3 15 = some (3, 0) by decide +kernel) h7 h8 h10 ?_
  exact w_invokevirtual cd_50_31 (show mt_m 3 84 = some (24, 0) by decide +kernel) (rest := []) rfl (as := [.ref x9]) rfl h12 (Or.inl h13) ⟨Nat.le_of_ble_eq_true rfl, Nat.le_of_ble_eq_true rfl, Nat.le_of_ble_eq_true rfl⟩ h14
theorem b_50_34 {d : Nat} {Q : (Option Value ⊕ Nat) → mi_H → Prop} (n sl : Nat) (f : Nat → mi_C) {l1 : Nat} {l2 : Int32} {o3 : Option Value} {o4 : Option Value} {o5 : Option Value} {fs6 : List Value} (h7 : f l1 = .inr (3, fs6)) (h8 : l1 < n) (h9 : mi_W d 50 0 (mi_en 5 [.ref l1, .int (l2 + 1)]) [] (n, sl, f) (mi_Kc d 50 38 [some (.ref l1), some (.int l2), o3, o4, o5] [] Q)) : mi_W (d + 1) 50 34 [some (.ref l1), some (.int l2), o3, o4, o5] [] (n, sl, f) Q := by
  refine w_aload_n cd_50_34 rfl ?_
  refine w_iload_n cd_50_35 rfl ?_
  refine w_iconst (v := 1) cd_50_36 (by decide) ?_
  refine w_iadd cd_50_37 ?_
  exact w_invokevirtual cd_50_38 (show mt_m 3 135 = some (50, 0) by decide +kernel) (rest := []) rfl (as := [.ref l1, .int (l2 + 1)]) rfl h7 (Or.inl h8) ⟨Nat.le_of_ble_eq_true rfl, Nat.le_of_ble_eq_true rfl, Nat.le_of_ble_eq_true rfl⟩ h9
theorem b_50_41 {d : Nat} {Q : (Option Value ⊕ Nat) → mi_H → Prop} (n sl : Nat) (f : Nat → mi_C) {l1 : Nat} {l2 : Int32} {o3 : Option Value} {o4 : Option Value} {o5 : Option Value} {s6 : Int32} {fs7 : List Value} (h8 : f l1 = .inr (3, fs7)) (h9 : l1 < n) (h10 : mi_W d 39 0 (mi_en 2 [.ref l1, .int 25]) [] (n, sl, f) (mi_Kc d 50 45 [some (.ref l1), some (.int l2), some (.int s6), o4, o5] [] Q)) : mi_W (d + 1) 50 41 [some (.ref l1), some (.int l2), o3, o4, o5] [.int s6] (n, sl, f) Q := by
  refine w_istore_n (ls' := [some (.ref l1), some (.int l2), some (.int s6), o4, o5]) cd_50_41 (Nat.le_of_ble_eq_true rfl) rfl ?_
  refine w_aload_n cd_50_42 rfl ?_
  refine w_bipush (v := 25) cd_50_43 (by decide) ?_
  exact w_invokevirtual cd_50_45 (show mt_m 3 99 = some (39, 0) by decide +kernel) (rest := []) rfl (as := [.ref l1, .int 25]) rfl h8 (Or.inl h9) ⟨Nat.le_of_ble_eq_true rfl, Nat.le_of_ble_eq_true rfl, Nat.le_of_ble_eq_true rfl⟩ h10
theorem b_50_48 {d : Nat} {Q : (Option Value ⊕ Nat) → mi_H → Prop} (n sl : Nat) (f : Nat → mi_C) {l1 : Nat} {l2 : Int32} {l3 : Int32} {o4 : Option Value} {o5 : Option Value} (h6 : Q (.inl (some (.int l3))) (n, sl, f)) : mi_W d 50 48 [some (.ref l1), some (.int l2), some (.int l3), o4, o5] [] (n, sl, f) Q := by
  refine w_iload_n cd_50_48 rfl ?_
  exact w_ireturn_i cd_50_49 (by decide +kernel) h6
theorem b_50_50 {d : Nat} {Q : (Option Value ⊕ Nat) → mi_H → Prop} (n sl : Nat) (f : Nat → mi_C) {l1 : Nat} {l2 : Int32} {o3 : Option Value} {o4 : Option Value} {o5 : Option Value} {fs6 : List Value} {x9 : Nat} {fs11 : List Value} {x14 : Int32} (h7 : f l1 = .inr (3, fs6)) (h8 : l1 < n) (h10 : fs6[0]? = some (.ref x9)) (h12 : f x9 = .inr (1, fs11)) (h13 : x9 < n) (h15 : fs11[2]? = some (.int x14)) (h16 : x14 < 32 → mi_W d 50 74 [some (.ref l1), some (.int l2), some (.int x14), o4, o5] [] (n, sl, f) Q) (h17 : ¬ (x14 < 32) → mi_W d 50 64 [some (.ref l1), some (.int l2), some (.int x14), o4, o5] [] (n, sl, f) Q) : mi_W d 50 50 [some (.ref l1), some (.int l2), o3, o4, o5] [] (n, sl, f) Q := by
  refine w_aload_n cd_50_50 rfl ?_
  refine w_getfield cd_50_51 (show mt_f 3 15 = some (3, 0) by decide +kernel) h7 h8 h10 ?_
  refine w_getfield cd_50_54 (show mt_f 3 67 = some (1, 2) by decide +kernel) h12 h13 h15 ?_
  refine w_istore_n (ls' := [some (.ref l1), some (.int l2), some (.int x14), o4, o5]) cd_50_57 (Nat.le_of_ble_eq_true rfl) rfl ?_
  refine w_iload_n cd_50_58 rfl ?_
  refine w_bipush (v := 32) cd_50_59 (by decide) ?_
  exact w_if_icmplt cd_50_61 (by decide) h16 h17
theorem b_50_64 {d : Nat} {Q : (Option Value ⊕ Nat) → mi_H → Prop} (n sl : Nat) (f : Nat → mi_C) {l1 : Nat} {l2 : Int32} {l3 : Int32} {o4 : Option Value} {o5 : Option Value} (h6 : 36 < l3 → mi_W d 50 74 [some (.ref l1), some (.int l2), some (.int l3), o4, o5] [] (n, sl, f) Q) (h7 : ¬ (36 < l3) → mi_W d 50 70 [some (.ref l1), some (.int l2), some (.int l3), o4, o5] [] (n, sl, f) Q) : mi_W d 50 64 [some (.ref l1), some (.int l2), some (.int l3), o4, o5] [] (n, sl, f) Q := by
  refine w_iload_n cd_50_64 rfl ?_
  refine w_bipush (v := 36) cd_50_65 (by decide) ?_
  exact w_if_icmpgt cd_50_67 (by decide) h6 h7
theorem b_50_70 {d : Nat} {Q : (Option Value ⊕ Nat) → mi_H → Prop} (n sl : Nat) (f : Nat → mi_C) {l1 : Nat} {l2 : Int32} {l3 : Int32} {o4 : Option Value} {o5 : Option Value} (h6 : mi_W d 50 75 [some (.ref l1), some (.int l2), some (.int l3), o4, o5] [.int 1] (n, sl, f) Q) : mi_W d 50 70 [some (.ref l1), some (.int l2), some (.int l3), o4, o5] [] (n, sl, f) Q := by
  refine w_iconst (v := 1) cd_50_70 (by decide) ?_
  exact w_goto cd_50_71 (by decide) h6
theorem b_50_74 {d : Nat} {Q : (Option Value ⊕ Nat) → mi_H → Prop} (n sl : Nat) (f : Nat → mi_C) {l1 : Nat} {l2 : Int32} {l3 : Int32} {o4 : Option Value} {o5 : Option Value} (h6 : mi_W d 50 75 [some (.ref l1), some (.int l2), some (.int l3), o4, o5] [.int 0] (n, sl, f) Q) : mi_W d 50 74 [some (.ref l1), some (.int l2), some (.int l3), o4, o5] [] (n, sl, f) Q := by
  refine w_iconst (v := 0) cd_50_74 (by decide) ?_
  exact h6
theorem b_50_75 {d : Nat} {Q : (Option Value ⊕ Nat) → mi_H → Prop} (n sl : Nat) (f : Nat → mi_C) {l1 : Nat} {l2 : Int32} {l3 : Int32} {o4 : Option Value} {o5 : Option Value} {s6 : Int32} (h7 : ¬ s6 = (0 : Int32) → mi_W d 50 93 [some (.ref l1), some (.int l2), some (.int l3), some (.int s6), o5] [.ref l1] (n, sl, f) Q) (h8 : ¬ (¬ s6 = (0 : Int32)) → mi_W d 50 81 [some (.ref l1), some (.int l2), some (.int l3), some (.int s6), o5] [.ref l1] (n, sl, f) Q) : mi_W d 50 75 [some (.ref l1), some (.int l2), some (.int l3), o4, o5] [.int s6] (n, sl, f) Q := by
  refine w_istore_n (ls' := [some (.ref l1), some (.int l2), some (.int l3), some (.int s6), o5]) cd_50_75 (Nat.le_of_ble_eq_true rfl) rfl ?_
  refine w_aload_n cd_50_76 rfl ?_
  refine w_iload_n cd_50_77 rfl ?_
  exact w_ifne cd_50_78 (by decide) h7 h8
theorem b_50_81 {d : Nat} {Q : (Option Value ⊕ Nat) → mi_H → Prop} (n sl : Nat) (f : Nat → mi_C) {l1 : Nat} {l2 : Int32} {l3 : Int32} {l4 : Int32} {o5 : Option Value} {s6 : Nat} (h7 : l3 < 18 → mi_W d 50 97 [some (.ref l1), some (.int l2), some (.int l3), some (.int l4), o5] [.ref s6] (n, sl, f) Q) (h8 : ¬ (l3 < 18) → mi_W d 50 87 [some (.ref l1), some (.int l2), some (.int l3), some (.int l4), o5] [.ref s6] (n, sl, f) Q) : mi_W d 50 81 [some (.ref l1), some (.int l2), some (.int l3), some (.int l4), o5] [.ref s6] (n, sl, f) Q := by
  refine w_iload_n cd_50_81 rfl ?_
  refine w_bipush (v := 18) cd_50_82 (by decide) ?_
  exact w_if_icmplt cd_50_84 (by decide) h7 h8
theorem b_50_87 {d : Nat} {Q : (Option Value ⊕ Nat) → mi_H → Prop} (n sl : Nat) (f : Nat → mi_C) {l1 : Nat} {l2 : Int32} {l3 : Int32} {l4 : Int32} {o5 : Option Value} {s6 : Nat} (h7 : 23 < l3 → mi_W d 50 97 [some (.ref l1), some (.int l2), some (.int l3), some (.int l4), o5] [.ref s6] (n, sl, f) Q) (h8 : ¬ (23 < l3) → mi_W d 50 93 [some (.ref l1), some (.int l2), some (.int l3), some (.int l4), o5] [.ref s6] (n, sl, f) Q) : mi_W d 50 87 [some (.ref l1), some (.int l2), some (.int l3), some (.int l4), o5] [.ref s6] (n, sl, f) Q := by
  refine w_iload_n cd_50_87 rfl ?_
  refine w_bipush (v := 23) cd_50_88 (by decide) ?_
  exact w_if_icmpgt cd_50_90 (by decide) h7 h8
theorem b_50_93 {d : Nat} {Q : (Option Value ⊕ Nat) → mi_H → Prop} (n sl : Nat) (f : Nat → mi_C) {l1 : Nat} {l2 : Int32} {l3 : Int32} {l4 : Int32} {o5 : Option Value} {s6 : Nat} (h7 : mi_W d 50 98 [some (.ref l1), some (.int l2), some (.int l3), some (.int l4), o5] [.int 1, .ref s6] (n, sl, f) Q) : mi_W d 50 93 [some (.ref l1), some (.int l2), some (.int l3), some (.int l4), o5] [.ref s6] (n, sl, f) Q := by
  refine w_iconst (v := 1) cd_50_93 (by decide) ?_
  exact w_goto cd_50_94 (by decide) h7
theorem b_50_97 {d : Nat} {Q : (Option Value ⊕ Nat) → mi_H → Prop} (n sl : Nat) (f : Nat → mi_C) {l1 : Nat} {l2 : Int32} {l3 : Int32} {l4 : Int32} {o5 : Option Value} {s6 : Nat} (h7 : mi_W d 50 98 [some (.ref l1), some (.int l2), some (.int l3), some (.int l4), o5] [.int 0, .ref s6] (n, sl, f) Q) : mi_W d 50 97 [some (.ref l1), some (.int l2), some (.int l3), some (.int l4), o5] [.ref s6] (n, sl, f) Q := by
  refine w_iconst (v := 0) cd_50_97 (by decide) ?_
  exact h7
theorem b_50_98 {d : Nat} {Q : (Option Value ⊕ Nat) → mi_H → Prop} (n sl : Nat) (f : Nat → mi_C) {l1 : Nat} {l2 : Int32} {l3 : Int32} {l4 : Int32} {o5 : Option Value} {s6 : Int32} {s7 : Nat} {fs8 : List Value} (h9 : f s7 = .inr (3, fs8)) (h10 : s7 < n) (h11 : mi_W d 38 0 (mi_en 2 [.ref s7, .int s6]) [] (n, sl, f) (mi_Kc d 50 98 [some (.ref l1), some (.int l2), some (.int l3), some (.int l4), o5] [] Q)) : mi_W (d + 1) 50 98 [some (.ref l1), some (.int l2), some (.int l3), some (.int l4), o5] [.int s6, .ref s7] (n, sl, f) Q := by
  exact w_invokevirtual cd_50_98 (show mt_m 3 70 = some (38, 0) by decide +kernel) (rest := []) rfl (as := [.ref s7, .int s6]) rfl h9 (Or.inl h10) ⟨Nat.le_of_ble_eq_true rfl, Nat.le_of_ble_eq_true rfl, Nat.le_of_ble_eq_true rfl⟩ h11
theorem b_50_101 {d : Nat} {Q : (Option Value ⊕ Nat) → mi_H → Prop} (n sl : Nat) (f : Nat → mi_C) {l1 : Nat} {l2 : Int32} {l3 : Int32} {l4 : Int32} {o5 : Option Value} {fs6 : List Value} (h7 : f l1 = .inr (3, fs6)) (h8 : l1 < n) (h9 : mi_W d 40 0 (mi_en 2 [.ref l1]) [] (n, sl, f) (mi_Kc d 50 102 [some (.ref l1), some (.int l2), some (.int l3), some (.int l4), o5] [] Q)) : mi_W (d + 1) 50 101 [some (.ref l1), some (.int l2), some (.int l3), some (.int l4), o5] [] (n, sl, f) Q := by
  refine w_aload_n cd_50_101 rfl ?_
  exact w_invokevirtual cd_50_102 (show mt_m 3 102 = some (40, 0) by decide +kernel) (rest := []) rfl (as := [.ref l1]) rfl h7 (Or.inl h8) ⟨Nat.le_of_ble_eq_true rfl, Nat.le_of_ble_eq_true rfl, Nat.le_of_ble_eq_true rfl⟩ h9
theorem b_50_105 {d : Nat} {Q : (Option Value ⊕ Nat) → mi_H → Prop} (n sl : Nat) (f : Nat → mi_C) {l1 : Nat} {l2 : Int32} {l3 : Int32} {l4 : Int32} {o5 : Option Value} {s6 : Int32} (h7 : l4 = (0 : Int32) → mi_W d 50 148 [some (.ref l1), some (.int l2), some (.int l3), some (.int l4), some (.int s6)] [] (n, sl, f) Q) (h8 : ¬ (l4 = (0 : Int32)) → mi_W d 50 111 [some (.ref l1), some (.int l2), some (.int l3), some (.int l4), some (.int s6)] [] (n, sl, f) Q) : mi_W d 50 105 [some (.ref l1), some (.int l2), some (.int l3), some (.int l4), o5] [.int s6] (n, sl, f) Q := by
  refine w_istore (ls' := [some (.ref l1), some (.int l2), some (.int l3), some (.int l4), some (.int s6)]) cd_50_105 (Nat.le_of_ble_eq_true rfl) rfl ?_
  refine w_iload_n cd_50_107 rfl ?_
  exact w_ifeq cd_50_108 (by decide) h7 h8
theorem b_50_111 {d : Nat} {Q : (Option Value ⊕ Nat) → mi_H → Prop} (n sl : Nat) (f : Nat → mi_C) {l1 : Nat} {l2 : Int32} {l3 : Int32} {l4 : Int32} {l5 : Int32} {fs6 : List Value} {x9 : Nat} {fs11 : List Value} {x14 : Nat} {fs16 : List Value} (h7 : f l1 = .inr (3, fs6)) (h8 : l1 < n) (h10 : fs6[1]? = some (.ref x9)) (h12 : f x9 = .inr (2, fs11)) (h13 : x9 < n) (h15 : fs11[1]? = some (.ref x14)) (h17 : f l1 = .inr (3, fs16)) (h18 : l1 < n) (h19 : mi_W d 48 0 (mi_en 5 [.ref l1, .int (l2 + 1)]) [] (n, sl, f) (mi_Kc d 50 124 [some (.ref l1), some (.int l2), some (.int l3), some (.int l4), some (.int l5)] [.int l5, .ref x14] Q)) : mi_W (d + 1) 50 111 [some (.ref l1), some (.int l2), some (.int l3), some (.int l4), some (.int l5)] [] (n, sl, f) Q := by
  refine w_aload_n cd_50_111 rfl ?_
  refine w_getfield cd_50_112 (show mt_f 3 19 = some (3, 1) by decide +kernel) h7 h8 h10 ?_
  refine w_getfield cd_50_115 (show mt_f 3 109 = some (2, 1) by decide +kernel) h12 h13 h15 ?_
  refine w_iload cd_50_118 rfl ?_
  refine w_aload_n cd_50_120 rfl ?_
  refine w_iload_n cd_50_121 rfl ?_
  refine w_iconst (v := 1) cd_50_122 (by decide) ?_
  refine w_iadd cd_50_123 ?_
  exact w_invokevirtual cd_50_124 (show mt_m 3 113 = some (48, 0) by decide +kernel) (rest := [.int l5, .ref x14]) rfl (as := [.ref l1, .int (l2 + 1)]) rfl h17 (Or.inl h18) ⟨Nat.le_of_ble_eq_true rfl, Nat.le_of_ble_eq_true rfl, Nat.le_of_ble_eq_true rfl⟩ h19
theorem b_50_127 {d : Nat} {Q : (Option Value ⊕ Nat) → mi_H → Prop} (n sl : Nat) (f : Nat → mi_C) {l1 : Nat} {l2 : Int32} {l3 : Int32} {l4 : Int32} {l5 : Int32} {s6 : Int32} {s7 : Int32} {s8 : Nat} (m9 i9 : Nat) (g9 : Nat → Int32) {fs13 : List Value} {x16 : Nat} {fs18 : List Value} {x21 : Nat} {fs23 : List Value} (h10 : f s8 = .inl (0, m9, .inl g9)) (h11 : s8 < n) (h12 : mi_ix s7 m9 i9) (h14 : (va_up f s8 (.inl (0, m9, .inl (upd g9 i9 s6)))) l1 = .inr (3, fs13)) (h15 : l1 < n) (h17 : fs13[1]? = some (.ref x16)) (h19 : (va_up f s8 (.inl (0, m9, .inl (upd g9 i9 s6)))) x16 = .inr (2, fs18)) (h20 : x16 < n) (h22 : fs18[3]? = some (.ref x21)) (h24 : (va_up f s8 (.inl (0, m9, .inl (upd g9 i9 s6)))) l1 = .inr (3, fs23)) (h25 : l1 < n) (h26 : mi_W d 48 0 (mi_en 5 [.ref l1, .int (l2 + 1)]) [] (n, sl, (va_up f s8 (.inl (0, m9, .inl (upd g9 i9 s6))))) (mi_Kc d 50 141 [some (.ref l1), some (.int l2), some (.int l3), some (.int l4), some (.int l5)] [.int l5, .ref x21] Q)) : mi_W (d + 1) 50 127 [some (.ref l1), some (.int l2), some (.int l3), some (.int l4), some (.int l5)] [.int s6, .int s7, .ref s8] (n, sl, f) Q := by
  refine w_iastore cd_50_127 h10 h11 h12 ?_
  refine w_aload_n cd_50_128 rfl ?_
  refine w_getfield cd_50_129 (show mt_f 3 19 = some (3, 1) by decide +kernel) h14 h15 h17 ?_
  refine w_getfield cd_50_132 (show mt_f 3 141 = some (2, 3) by decide +kernel) h19 h20 h22 ?_
  refine w_iload cd_50_135 rfl ?_
  refine w_aload_n cd_50_137 rfl ?_
  refine w_iload_n cd_50_138 rfl ?_
  refine w_iconst (v := 1) cd_50_139 (by decide) ?_
  refine w_iadd cd_50_140 ?_
  exact w_invokevirtual cd_50_141 (show mt_m 3 113 = some (48, 0) by decide +kernel) (rest := [.int l5, .ref x21]) rfl (as := [.ref l1, .int (l2 + 1)]) rfl h24 (Or.inl h25) ⟨Nat.le_of_ble_eq_true rfl, Nat.le_of_ble_eq_true rfl, Nat.le_of_ble_eq_true rfl⟩ h26
theorem b_50_144 {d : Nat} {Q : (Option Value ⊕ Nat) → mi_H → Prop} (n sl : Nat) (f : Nat → mi_C) {l1 : Nat} {l2 : Int32} {l3 : Int32} {l4 : Int32} {l5 : Int32} {s6 : Int32} {s7 : Int32} {s8 : Nat} (m9 i9 : Nat) (g9 : Nat → Int32) (h10 : f s8 = .inl (0, m9, .inl g9)) (h11 : s8 < n) (h12 : mi_ix s7 m9 i9) (h13 : mi_W d 50 243 [some (.ref l1), some (.int l2), some (.int l3), some (.int l4), some (.int l5)] [] (n, sl, (va_up f s8 (.inl (0, m9, .inl (upd g9 i9 s6))))) Q) : mi_W d 50 144 [some (.ref l1), some (.int l2), some (.int l3), some (.int l4), some (.int l5)] [.int s6, .int s7, .ref s8] (n, sl, f) Q := by
  refine w_iastore cd_50_144 h10 h11 h12 ?_
  exact w_goto cd_50_145 (by decide) h13
theorem b_50_148 {d : Nat} {Q : (Option Value ⊕ Nat) → mi_H → Prop} (n sl : Nat) (f : Nat → mi_C) {l1 : Nat} {l2 : Int32} {l3 : Int32} {l4 : Int32} {l5 : Int32} (h6 : l3 = 20 → mi_W d 50 160 [some (.ref l1), some (.int l2), some (.int l3), some (.int l4), some (.int l5)] [] (n, sl, f) Q) (h7 : ¬ (l3 = 20) → mi_W d 50 154 [some (.ref l1), some (.int l2), some (.int l3), some (.int l4), some (.int l5)] [] (n, sl, f) Q) : mi_W d 50 148 [some (.ref l1), some (.int l2), some (.int l3), some (.int l4), some (.int l5)] [] (n, sl, f) Q := by
  refine w_iload_n cd_50_148 rfl ?_
  refine w_bipush (v := 20) cd_50_149 (by decide) ?_
  exact w_if_icmpeq cd_50_151 (by decide) h6 h7
theorem b_50_154 {d : Nat} {Q : (Option Value ⊕ Nat) → mi_H → Prop} (n sl : Nat) (f : Nat → mi_C) {l1 : Nat} {l2 : Int32} {l3 : Int32} {l4 : Int32} {l5 : Int32} (h6 : ¬ l3 = 21 → mi_W d 50 197 [some (.ref l1), some (.int l2), some (.int l3), some (.int l4), some (.int l5)] [] (n, sl, f) Q) (h7 : ¬ (¬ l3 = 21) → mi_W d 50 160 [some (.ref l1), some (.int l2), some (.int l3), some (.int l4), some (.int l5)] [] (n, sl, f) Q) : mi_W d 50 154 [some (.ref l1), some (.int l2), some (.int l3), some (.int l4), some (.int l5)] [] (n, sl, f) Q := by
  refine w_iload_n cd_50_154 rfl ?_
  refine w_bipush (v := 21) cd_50_155 (by decide) ?_
  exact w_if_icmpne cd_50_157 (by decide) h6 h7
theorem b_50_160 {d : Nat} {Q : (Option Value ⊕ Nat) → mi_H → Prop} (n sl : Nat) (f : Nat → mi_C) {l1 : Nat} {l2 : Int32} {l3 : Int32} {l4 : Int32} {l5 : Int32} {fs6 : List Value} {x9 : Nat} {fs11 : List Value} {x14 : Nat} {fs16 : List Value} (h7 : f l1 = .inr (3, fs6)) (h8 : l1 < n) (h10 : fs6[1]? = some (.ref x9)) (h12 : f x9 = .inr (2, fs11)) (h13 : x9 < n) (h15 : fs11[1]? = some (.ref x14)) (h17 : f l1 = .inr (3, fs16)) (h18 : l1 < n) (h19 : mi_W d 50 0 (mi_en 5 [.ref l1, .int (l2 + 1)]) [] (n, sl, f) (mi_Kc d 50 173 [some (.ref l1), some (.int l2), some (.int l3), some (.int l4), some (.int l5)] [.int l5, .ref x14] Q)) : mi_W (d + 1) 50 160 [some (.ref l1), some (.int l2), some (.int l3), some (.int l4), some (.int l5)] [] (n, sl, f) Q := by
  refine w_aload_n cd_50_160 rfl ?_
  refine w_getfield cd_50_161 (show mt_f 3 19 = some (3, 1) by decide +kernel) h7 h8 h10 ?_
  refine w_getfield cd_50_164 (show mt_f 3 109 = some (2, 1) by decide +kernel) h12 h13 h15 ?_
  refine w_iload cd_50_167 rfl ?_
  refine w_aload_n cd_50_169 rfl ?_
  refine w_iload_n cd_50_170 rfl ?_
  refine w_iconst (v := 1) cd_50_171 (by decide) ?_
  refine w_iadd cd_50_172 ?_
  exact w_invokevirtual cd_50_173 (show mt_m 3 135 = some (50, 0) by decide +kernel) (rest := [.int l5, .ref x14]) rfl (as := [.ref l1, .int (l2 + 1)]) rfl h17 (Or.inl h18) ⟨Nat.le_of_ble_eq_true rfl, Nat.le_of_ble_eq_true rfl, Nat.le_of_ble_eq_true rfl⟩ h19
theorem b_50_176 {d : Nat} {Q : (Option Value ⊕ Nat) → mi_H → Prop} (n sl : Nat) (f : Nat → mi_C) {l1 : Nat} {l2 : Int32} {l3 : Int32} {l4 : Int32} {l5 : Int32} {s6 : Int32} {s7 : Int32} {s8 : Nat} (m9 i9 : Nat) (g9 : Nat → Int32) {fs13 : List Value} {x16 : Nat} {fs18 : List Value} {x21 : Nat} {fs23 : List Value} (h10 : f s8 = .inl (0, m9, .inl g9)) (h11 : s8 < n) (h12 : mi_ix s7 m9 i9) (h14 : (va_up f s8 (.inl (0, m9, .inl (upd g9 i9 s6)))) l1 = .inr (3, fs13)) (h15 : l1 < n) (h17 : fs13[1]? = some (.ref x16)) (h19 : (va_up f s8 (.inl (0, m9, .inl (upd g9 i9 s6)))) x16 = .inr (2, fs18)) (h20 : x16 < n) (h22 : fs18[3]? = some (.ref x21)) (h24 : (va_up f s8 (.inl (0, m9, .inl (upd g9 i9 s6)))) l1 = .inr (3, fs23)) (h25 : l1 < n) (h26 : mi_W d 50 0 (mi_en 5 [.ref l1, .int (l2 + 1)]) [] (n, sl, (va_up f s8 (.inl (0, m9, .inl (upd g9 i9 s6))))) (mi_Kc d 50 190 [some (.ref l1), some (.int l2), some (.int l3), some (.int l4), some (.int l5)] [.int l5, .ref x21] Q)) : mi_W (d + 1) 50 176 [some (.ref l1), some (.int l2), some (.int l3), some (.int l4), some (.int l5)] [.int s6, .int s7, .ref s8] (n, sl, f) Q := by
  refine w_iastore cd_50_176 h10 h11 h12 ?_
  refine w_aload_n cd_50_177 rfl ?_
  refine w_getfield cd_50_178 (show mt_f 3 19 = some (3, 1) by decide +kernel) h14 h15 h17 ?_
  refine w_getfield cd_50_181 (show mt_f 3 141 = some (2, 3) by decide +kernel) h19 h20 h22 ?_
  refine w_iload cd_50_184 rfl ?_
  refine w_aload_n cd_50_186 rfl ?_
  refine w_iload_n cd_50_187 rfl ?_
  refine w_iconst (v := 1) cd_50_188 (by decide) ?_
  refine w_iadd cd_50_189 ?_
  exact w_invokevirtual cd_50_190 (show mt_m 3 135 = some (50, 0) by decide +kernel) (rest := [.int l5, .ref x21]) rfl (as := [.ref l1, .int (l2 + 1)]) rfl h24 (Or.inl h25) ⟨Nat.le_of_ble_eq_true rfl, Nat.le_of_ble_eq_true rfl, Nat.le_of_ble_eq_true rfl⟩ h26
theorem b_50_193 {d : Nat} {Q : (Option Value ⊕ Nat) → mi_H → Prop} (n sl : Nat) (f : Nat → mi_C) {l1 : Nat} {l2 : Int32} {l3 : Int32} {l4 : Int32} {l5 : Int32} {s6 : Int32} {s7 : Int32} {s8 : Nat} (m9 i9 : Nat) (g9 : Nat → Int32) (h10 : f s8 = .inl (0, m9, .inl g9)) (h11 : s8 < n) (h12 : mi_ix s7 m9 i9) (h13 : mi_W d 50 243 [some (.ref l1), some (.int l2), some (.int l3), some (.int l4), some (.int l5)] [] (n, sl, (va_up f s8 (.inl (0, m9, .inl (upd g9 i9 s6))))) Q) : mi_W d 50 193 [some (.ref l1), some (.int l2), some (.int l3), some (.int l4), some (.int l5)] [.int s6, .int s7, .ref s8] (n, sl, f) Q := by
  refine w_iastore cd_50_193 h10 h11 h12 ?_
  exact w_goto cd_50_194 (by decide) h13
theorem b_50_197 {d : Nat} {Q : (Option Value ⊕ Nat) → mi_H → Prop} (n sl : Nat) (f : Nat → mi_C) {l1 : Nat} {l2 : Int32} {l3 : Int32} {l4 : Int32} {l5 : Int32} (h6 : ¬ l3 = 22 → mi_W d 50 223 [some (.ref l1), some (.int l2), some (.int l3), some (.int l4), some (.int l5)] [] (n, sl, f) Q) (h7 : ¬ (¬ l3 = 22) → mi_W d 50 203 [some (.ref l1), some (.int l2), some (.int l3), some (.int l4), some (.int l5)] [] (n, sl, f) Q) : mi_W d 50 197 [some (.ref l1), some (.int l2), some (.int l3), some (.int l4), some (.int l5)] [] (n, sl, f) Q := by
  refine w_iload_n cd_50_197 rfl ?_
  refine w_bipush (v := 22) cd_50_198 (by decide) ?_
  exact w_if_icmpne cd_50_200 (by decide) h6 h7
theorem b_50_203 {d : Nat} {Q : (Option Value ⊕ Nat) → mi_H → Prop} (n sl : Nat) (f : Nat → mi_C) {l1 : Nat} {l2 : Int32} {l3 : Int32} {l4 : Int32} {l5 : Int32} {fs6 : List Value} {x9 : Nat} {fs11 : List Value} {x14 : Nat} {fs16 : List Value} (h7 : f l1 = .inr (3, fs6)) (h8 : l1 < n) (h10 : fs6[1]? = some (.ref x9)) (h12 : f x9 = .inr (2, fs11)) (h13 : x9 < n) (h15 : fs11[1]? = some (.ref x14)) (h17 : f l1 = .inr (3, fs16)) (h18 : l1 < n) (h19 : mi_W d 50 0 (mi_en 5 [.ref l1, .int (l2 + 1)]) [] (n, sl, f) (mi_Kc d 50 216 [some (.ref l1), some (.int l2), some (.int l3), some (.int l4), some (.int l5)] [.int l5, .ref x14] Q)) : mi_W (d + 1) 50 203 [some (.ref l1), some (.int l2), some (.int l3), some (.int l4), some (.int l5)] [] (n, sl, f) Q := by
  refine w_aload_n cd_50_203 rfl ?_
  refine w_getfield cd_50_204 (show mt_f 3 19 = some (3, 1) by decide +kernel) h7 h8 h10 ?_
  refine w_getfield cd_50_207 (show mt_f 3 109 = some (2, 1) by decide +kernel) h12 h13 h15 ?_
  refine w_iload cd_50_210 rfl ?_
  refine w_aload_n cd_50_212 rfl ?_
  refine w_iload_n cd_50_213 rfl ?_
  refine w_iconst (v := 1) cd_50_214 (by decide) ?_
  refine w_iadd cd_50_215 ?_
  exact w_invokevirtual cd_50_216 (show mt_m 3 135 = some (50, 0) by decide +kernel) (rest := [.int l5, .ref x14]) rfl (as := [.ref l1, .int (l2 + 1)]) rfl h17 (Or.inl h18) ⟨Nat.le_of_ble_eq_true rfl, Nat.le_of_ble_eq_true rfl, Nat.le_of_ble_eq_true rfl⟩ h19
theorem b_50_219 {d : Nat} {Q : (Option Value ⊕ Nat) → mi_H → Prop} (n sl : Nat) (f : Nat → mi_C) {l1 : Nat} {l2 : Int32} {l3 : Int32} {l4 : Int32} {l5 : Int32} {s6 : Int32} {s7 : Int32} {s8 : Nat} (m9 i9 : Nat) (g9 : Nat → Int32) (h10 : f s8 = .inl (0, m9, .inl g9)) (h11 : s8 < n) (h12 : mi_ix s7 m9 i9) (h13 : mi_W d 50 243 [some (.ref l1), some (.int l2), some (.int l3), some (.int l4), some (.int l5)] [] (n, sl, (va_up f s8 (.inl (0, m9, .inl (upd g9 i9 s6))))) Q) : mi_W d 50 219 [some (.ref l1), some (.int l2), some (.int l3), some (.int l4), some (.int l5)] [.int s6, .int s7, .ref s8] (n, sl, f) Q := by
  refine w_iastore cd_50_219 h10 h11 h12 ?_
  exact w_goto cd_50_220 (by decide) h13
theorem b_50_223 {d : Nat} {Q : (Option Value ⊕ Nat) → mi_H → Prop} (n sl : Nat) (f : Nat → mi_C) {l1 : Nat} {l2 : Int32} {l3 : Int32} {l4 : Int32} {l5 : Int32} (h6 : ¬ l3 = 23 → mi_W d 50 243 [some (.ref l1), some (.int l2), some (.int l3), some (.int l4), some (.int l5)] [] (n, sl, f) Q) (h7 : ¬ (¬ l3 = 23) → mi_W d 50 229 [some (.ref l1), some (.int l2), some (.int l3), some (.int l4), some (.int l5)] [] (n, sl, f) Q) : mi_W d 50 223 [some (.ref l1), some (.int l2), some (.int l3), some (.int l4), some (.int l5)] [] (n, sl, f) Q := by
  refine w_iload_n cd_50_223 rfl ?_
  refine w_bipush (v := 23) cd_50_224 (by decide) ?_
  exact w_if_icmpne cd_50_226 (by decide) h6 h7
theorem b_50_229 {d : Nat} {Q : (Option Value ⊕ Nat) → mi_H → Prop} (n sl : Nat) (f : Nat → mi_C) {l1 : Nat} {l2 : Int32} {l3 : Int32} {l4 : Int32} {l5 : Int32} {fs6 : List Value} {x9 : Nat} {fs11 : List Value} {x14 : Nat} {fs16 : List Value} (h7 : f l1 = .inr (3, fs6)) (h8 : l1 < n) (h10 : fs6[1]? = some (.ref x9)) (h12 : f x9 = .inr (2, fs11)) (h13 : x9 < n) (h15 : fs11[4]? = some (.ref x14)) (h17 : f l1 = .inr (3, fs16)) (h18 : l1 < n) (h19 : mi_W d 49 0 (mi_en 5 [.ref l1]) [] (n, sl, f) (mi_Kc d 50 239 [some (.ref l1), some (.int l2), some (.int l3), some (.int l4), some (.int l5)] [.int l5, .ref x14] Q)) : mi_W (d + 1) 50 229 [some (.ref l1), some (.int l2), some (.int l3), some (.int l4), some (.int l5)] [] (n, sl, f) Q := by
  refine w_aload_n cd_50_229 rfl ?_
  refine w_getfield cd_50_230 (show mt_f 3 19 = some (3, 1) by decide +kernel) h7 h8 h10 ?_
  refine w_getfield cd_50_233 (show mt_f 3 128 = some (2, 4) by decide +kernel) h12 h13 h15 ?_
  refine w_iload cd_50_236 rfl ?_
  refine w_aload_n cd_50_238 rfl ?_
  exact w_invokevirtual cd_50_239 (show mt_m 3 157 = some (49, 0) by decide +kernel) (rest := [.int l5, .ref x14]) rfl (as := [.ref l1]) rfl h17 (Or.inl h18) ⟨Nat.le_of_ble_eq_true rfl, Nat.le_of_ble_eq_true rfl, Nat.le_of_ble_eq_true rfl⟩ h19
theorem b_50_242 {d : Nat} {Q : (Option Value ⊕ Nat) → mi_H → Prop} (n sl : Nat) (f : Nat → mi_C) {l1 : Nat} {l2 : Int32} {l3 : Int32} {l4 : Int32} {l5 : Int32} {s6 : Int32} {s7 : Int32} {s8 : Nat} (m9 i9 : Nat) (g9 : Nat → Int32) (h10 : f s8 = .inl (0, m9, .inl g9)) (h11 : s8 < n) (h12 : mi_ix s7 m9 i9) (h13 : mi_W d 50 243 [some (.ref l1), some (.int l2), some (.int l3), some (.int l4), some (.int l5)] [] (n, sl, (va_up f s8 (.inl (0, m9, .inl (upd g9 i9 s6))))) Q) : mi_W d 50 242 [some (.ref l1), some (.int l2), some (.int l3), some (.int l4), some (.int l5)] [.int s6, .int s7, .ref s8] (n, sl, f) Q := by
  refine w_iastore cd_50_242 h10 h11 h12 ?_
  exact h13
theorem b_50_243 {d : Nat} {Q : (Option Value ⊕ Nat) → mi_H → Prop} (n sl : Nat) (f : Nat → mi_C) {l1 : Nat} {l2 : Int32} {l3 : Int32} {l4 : Int32} {l5 : Int32} {fs6 : List Value} {x9 : Nat} {fs11 : List Value} {x14 : Nat} {fs16 : List Value} {x19 : Nat} {fs21 : List Value} {x24 : Int32} (m26 i26 : Nat) (g26 : Nat → Int32) (h7 : f l1 = .inr (3, fs6)) (h8 : l1 < n) (h10 : fs6[1]? = some (.ref x9)) (h12 : f x9 = .inr (2, fs11)) (h13 : x9 < n) (h15 : fs11[7]? = some (.ref x14)) (h17 : f l1 = .inr (3, fs16)) (h18 : l1 < n) (h20 : fs16[1]? = some (.ref x19)) (h22 : f x19 = .inr (2, fs21)) (h23 : x19 < n) (h25 : fs21[11]? = some (.int x24)) (h27 : f x14 = .inl (0, m26, .inl g26)) (h28 : x14 < n) (h29 : mi_ix l5 m26 i26) (h30 : Q (.inl (some (.int l5))) (n, sl, (va_up f x14 (.inl (0, m26, .inl (upd g26 i26 x24)))))) : mi_W d 50 243 [some (.ref l1), some (.int l2), some (.int l3), some (.int l4), some (.int l5)] [] (n, sl, f) Q := by
  refine w_aload_n cd_50_243 rfl ?_
  refine w_getfield cd_50_244 (show mt_f 3 19 = some (3, 1) by decide +kernel) h7 h8 h10 ?_
  refine w_getfield cd_50_247 (show mt_f 3 144 = some (2, 7) by decide +kernel) h12 h13 h15 ?_
  refine w_iload cd_50_250 rfl ?_
  refine w_aload_n cd_50_252 rfl ?_
  refine w_getfield cd_50_253 (show mt_f 3 19 = some (3, 1) by decide +kernel) h17 h18 h20 ?_
  refine w_getfield cd_50_256 (show mt_f 3 87 = some (2, 11) by decide +kernel) h22 h23 h25 ?_
  refine w_iastore cd_50_259 h27 h28 h29 ?_
  refine w_iload cd_50_260 rfl ?_
  exact w_ireturn_i cd_50_262 (by decide +kernel) h30
/-! MarloweHost$Reader.readAction(III)I -/
set_option maxRecDepth 100000 in
theorem mq_51 : mt_q 51 = my_51 := rfl
set_option maxRecDepth 100000 in
theorem ci_51 : mt_inc 0 my_51.cd = true := by decide +kernel
theorem cd_51_0 : mt_cd 51 0 = some (.aload_n 0) := mt_cd_of (q := (0, .aload_n 0, 1)) mq_51 ci_51 (List.mem_append_left _ (show _ ∈ my_51_0 from List.mem_of_getElem? (i := 0) rfl))
theorem cd_51_1 : mt_cd 51 1 = some (.getfield 15) := mt_cd_of (q := (1, .getfield 15, 3)) mq_51 ci_51 (List.mem_append_left _ (show _ ∈ my_51_0 from List.mem_of_getElem? (i := 1) rfl))
theorem cd_51_4 : mt_cd 51 4 = some (.getfield 67) := mt_cd_of (q := (4, .getfield 67, 3)) mq_51 ci_51 (List.mem_append_left _ (show _ ∈ my_51_0 from List.mem_of_getElem? (i := 2) rfl))
theorem cd_51_7 : mt_cd 51 7 = some (.istore 4) := mt_cd_of (q := (7, .istore 4, 2)) mq_51 ci_51 (List.mem_append_left _ (show _ ∈ my_51_0 from List.mem_of_getElem? (i := 3) rfl))
theorem cd_51_9 : mt_cd 51 9 = some (.aload_n 0) := mt_cd_of (q := (9, .aload_n 0, 1)) mq_51 ci_51 (List.mem_append_left _ (show _ ∈ my_51_0 from List.mem_of_getElem? (i := 4) rfl))
theorem cd_51_10 : mt_cd 51 10 = some (.iload 4) := mt_cd_of (q := (10, .iload 4, 2)) mq_51 ci_51 (List.mem_append_left _ (show _ ∈ my_51_0 from List.mem_of_getElem? (i := 5) rfl))
theorem cd_51_12 : mt_cd 51 12 = some (.bipush 8) := mt_cd_of (q := (12, .bipush 8, 2)) mq_51 ci_51 (List.mem_append_left _ (show _ ∈ my_51_0 from List.mem_of_getElem? (i := 6) rfl))
theorem cd_51_14 : mt_cd 51 14 = some (.if_icmp .eq 17) := mt_cd_of (q := (14, .if_icmp .eq 17, 3)) mq_51 ci_51 (List.mem_append_left _ (show _ ∈ my_51_0 from List.mem_of_getElem? (i := 7) rfl))
theorem cd_51_17 : mt_cd 51 17 = some (.iload 4) := mt_cd_of (q := (17, .iload 4, 2)) mq_51 ci_51 (List.mem_append_left _ (show _ ∈ my_51_0 from List.mem_of_getElem? (i := 8) rfl))
theorem cd_51_19 : mt_cd 51 19 = some (.bipush 9) := mt_cd_of (q := (19, .bipush 9, 2)) mq_51 ci_51 (List.mem_append_left _ (show _ ∈ my_51_0 from List.mem_of_getElem? (i := 9) rfl))
theorem cd_51_21 : mt_cd 51 21 = some (.if_icmp .eq 10) := mt_cd_of (q := (21, .if_icmp .eq 10, 3)) mq_51 ci_51 (List.mem_append_left _ (show _ ∈ my_51_0 from List.mem_of_getElem? (i := 10) rfl))
theorem cd_51_24 : mt_cd 51 24 = some (.iload 4) := mt_cd_of (q := (24, .iload 4, 2)) mq_51 ci_51 (List.mem_append_left _ (show _ ∈ my_51_0 from List.mem_of_getElem? (i := 11) rfl))
theorem cd_51_26 : mt_cd 51 26 = some (.bipush 10) := mt_cd_of (q := (26, .bipush 10, 2)) mq_51 ci_51 (List.mem_append_left _ (show _ ∈ my_51_0 from List.mem_of_getElem? (i := 12) rfl))
theorem cd_51_28 : mt_cd 51 28 = some (.if_icmp .ne 7) := mt_cd_of (q := (28, .if_icmp .ne 7, 3)) mq_51 ci_51 (List.mem_append_left _ (show _ ∈ my_51_0 from List.mem_of_getElem? (i := 13) rfl))
theorem cd_51_31 : mt_cd 51 31 = some (.iconst 1) := mt_cd_of (q := (31, .iconst 1, 1)) mq_51 ci_51 (List.mem_append_left _ (show _ ∈ my_51_0 from List.mem_of_getElem? (i := 14) rfl))
theorem cd_51_32 : mt_cd 51 32 = some (.goto 4) := mt_cd_of (q := (32, .goto 4, 3)) mq_51 ci_51 (List.mem_append_left _ (show _ ∈ my_51_0 from List.mem_of_getElem? (i := 15) rfl))
theorem cd_51_35 : mt_cd 51 35 = some (.iconst 0) := mt_cd_of (q := (35, .iconst 0, 1)) mq_51 ci_51 (List.mem_append_left _ (show _ ∈ my_51_0 from List.mem_of_getElem? (i := 16) rfl))
theorem cd_51_36 : mt_cd 51 36 = some (.invokevirtual 70) := mt_cd_of (q := (36, .invokevirtual 70, 3)) mq_51 ci_51 (List.mem_append_left _ (show _ ∈ my_51_0 from List.mem_of_getElem? (i := 17) rfl))
theorem cd_51_39 : mt_cd 51 39 = some (.aload_n 0) := mt_cd_of (q := (39, .aload_n 0, 1)) mq_51 ci_51 (List.mem_append_left _ (show _ ∈ my_51_0 from List.mem_of_getElem? (i := 18) rfl))
theorem cd_51_40 : mt_cd 51 40 = some (.invokevirtual 102) := mt_cd_of (q := (40, .invokevirtual 102, 3)) mq_51 ci_51 (List.mem_append_left _ (show _ ∈ my_51_0 from List.mem_of_getElem? (i := 19) rfl))
theorem cd_51_43 : mt_cd 51 43 = some (.istore 5) := mt_cd_of (q := (43, .istore 5, 2)) mq_51 ci_51 (List.mem_append_left _ (show _ ∈ my_51_0 from List.mem_of_getElem? (i := 20) rfl))
theorem cd_51_45 : mt_cd 51 45 = some (.iload_n 2) := mt_cd_of (q := (45, .iload_n 2, 1)) mq_51 ci_51 (List.mem_append_left _ (show _ ∈ my_51_0 from List.mem_of_getElem? (i := 21) rfl))
theorem cd_51_46 : mt_cd 51 46 = some (.iconst (-1)) := mt_cd_of (q := (46, .iconst (-1), 1)) mq_51 ci_51 (List.mem_append_left _ (show _ ∈ my_51_0 from List.mem_of_getElem? (i := 22) rfl))
theorem cd_51_47 : mt_cd 51 47 = some (.if_icmp .ne 17) := mt_cd_of (q := (47, .if_icmp .ne 17, 3)) mq_51 ci_51 (List.mem_append_left _ (show _ ∈ my_51_0 from List.mem_of_getElem? (i := 23) rfl))
theorem cd_51_50 : mt_cd 51 50 = some (.aload_n 0) := mt_cd_of (q := (50, .aload_n 0, 1)) mq_51 ci_51 (List.mem_append_left _ (show _ ∈ my_51_0 from List.mem_of_getElem? (i := 24) rfl))
theorem cd_51_51 : mt_cd 51 51 = some (.getfield 19) := mt_cd_of (q := (51, .getfield 19, 3)) mq_51 ci_51 (List.mem_append_left _ (show _ ∈ my_51_0 from List.mem_of_getElem? (i := 25) rfl))
theorem cd_51_54 : mt_cd 51 54 = some (.getfield 109) := mt_cd_of (q := (54, .getfield 109, 3)) mq_51 ci_51 (List.mem_append_left _ (show _ ∈ my_51_0 from List.mem_of_getElem? (i := 26) rfl))
theorem cd_51_57 : mt_cd 51 57 = some (.iload_n 1) := mt_cd_of (q := (57, .iload_n 1, 1)) mq_51 ci_51 (List.mem_append_left _ (show _ ∈ my_51_0 from List.mem_of_getElem? (i := 27) rfl))
theorem cd_51_58 : mt_cd 51 58 = some (.iload 5) := mt_cd_of (q := (58, .iload 5, 2)) mq_51 ci_51 (List.mem_append_left _ (show _ ∈ my_51_0 from List.mem_of_getElem? (i := 28) rfl))
theorem cd_51_60 : mt_cd 51 60 = some (.iastore) := mt_cd_of (q := (60, .iastore, 1)) mq_51 ci_51 (List.mem_append_left _ (show _ ∈ my_51_0 from List.mem_of_getElem? (i := 29) rfl))
theorem cd_51_61 : mt_cd 51 61 = some (.goto 14) := mt_cd_of (q := (61, .goto 14, 3)) mq_51 ci_51 (List.mem_append_left _ (show _ ∈ my_51_0 from List.mem_of_getElem? (i := 30) rfl))
theorem cd_51_64 : mt_cd 51 64 = some (.aload_n 0) := mt_cd_of (q := (64, .aload_n 0, 1)) mq_51 ci_51 (List.mem_append_left _ (show _ ∈ my_51_0 from List.mem_of_getElem? (i := 31) rfl))
theorem cd_51_65 : mt_cd 51 65 = some (.getfield 19) := mt_cd_of (q := (65, .getfield 19, 3)) mq_51 ci_51 (List.mem_append_left _ (show _ ∈ my_51_0 from List.mem_of_getElem? (i := 32) rfl))
theorem cd_51_68 : mt_cd 51 68 = some (.getfield 141) := mt_cd_of (q := (68, .getfield 141, 3)) mq_51 ci_51 (List.mem_append_left _ (show _ ∈ my_51_0 from List.mem_of_getElem? (i := 33) rfl))
theorem cd_51_71 : mt_cd 51 71 = some (.iload_n 2) := mt_cd_of (q := (71, .iload_n 2, 1)) mq_51 ci_51 (List.mem_append_left _ (show _ ∈ my_51_0 from List.mem_of_getElem? (i := 34) rfl))
theorem cd_51_72 : mt_cd 51 72 = some (.iload 5) := mt_cd_of (q := (72, .iload 5, 2)) mq_51 ci_51 (List.mem_append_left _ (show _ ∈ my_51_0 from List.mem_of_getElem? (i := 35) rfl))
theorem cd_51_74 : mt_cd 51 74 = some (.iastore) := mt_cd_of (q := (74, .iastore, 1)) mq_51 ci_51 (List.mem_append_left _ (show _ ∈ my_51_0 from List.mem_of_getElem? (i := 36) rfl))
theorem cd_51_75 : mt_cd 51 75 = some (.iload 4) := mt_cd_of (q := (75, .iload 4, 2)) mq_51 ci_51 (List.mem_append_left _ (show _ ∈ my_51_0 from List.mem_of_getElem? (i := 37) rfl))
theorem cd_51_77 : mt_cd 51 77 = some (.bipush 8) := mt_cd_of (q := (77, .bipush 8, 2)) mq_51 ci_51 (List.mem_append_left _ (show _ ∈ my_51_0 from List.mem_of_getElem? (i := 38) rfl))
theorem cd_51_79 : mt_cd 51 79 = some (.if_icmp .ne 77) := mt_cd_of (q := (79, .if_icmp .ne 77, 3)) mq_51 ci_51 (List.mem_append_left _ (show _ ∈ my_51_0 from List.mem_of_getElem? (i := 39) rfl))
theorem cd_51_82 : mt_cd 51 82 = some (.aload_n 0) := mt_cd_of (q := (82, .aload_n 0, 1)) mq_51 ci_51 (List.mem_append_left _ (show _ ∈ my_51_0 from List.mem_of_getElem? (i := 40) rfl))
theorem cd_51_83 : mt_cd 51 83 = some (.getfield 19) := mt_cd_of (q := (83, .getfield 19, 3)) mq_51 ci_51 (List.mem_append_left _ (show _ ∈ my_51_0 from List.mem_of_getElem? (i := 41) rfl))
theorem cd_51_86 : mt_cd 51 86 = some (.getfield 128) := mt_cd_of (q := (86, .getfield 128, 3)) mq_51 ci_51 (List.mem_append_left _ (show _ ∈ my_51_0 from List.mem_of_getElem? (i := 42) rfl))
theorem cd_51_89 : mt_cd 51 89 = some (.iload 5) := mt_cd_of (q := (89, .iload 5, 2)) mq_51 ci_51 (List.mem_append_left _ (show _ ∈ my_51_0 from List.mem_of_getElem? (i := 43) rfl))
theorem cd_51_91 : mt_cd 51 91 = some (.aload_n 0) := mt_cd_of (q := (91, .aload_n 0, 1)) mq_51 ci_51 (List.mem_append_left _ (show _ ∈ my_51_0 from List.mem_of_getElem? (i := 44) rfl))
theorem cd_51_92 : mt_cd 51 92 = some (.aload_n 0) := mt_cd_of (q := (92, .aload_n 0, 1)) mq_51 ci_51 (List.mem_append_left _ (show _ ∈ my_51_0 from List.mem_of_getElem? (i := 45) rfl))
theorem cd_51_93 : mt_cd 51 93 = some (.getfield 34) := mt_cd_of (q := (93, .getfield 34, 3)) mq_51 ci_51 (List.mem_append_left _ (show _ ∈ my_51_0 from List.mem_of_getElem? (i := 46) rfl))
theorem cd_51_96 : mt_cd 51 96 = some (.invokevirtual 131) := mt_cd_of (q := (96, .invokevirtual 131, 3)) mq_51 ci_51 (List.mem_append_left _ (show _ ∈ my_51_0 from List.mem_of_getElem? (i := 47) rfl))
theorem cd_51_99 : mt_cd 51 99 = some (.iastore) := mt_cd_of (q := (99, .iastore, 1)) mq_51 ci_51 (List.mem_append_left _ (show _ ∈ my_51_0 from List.mem_of_getElem? (i := 48) rfl))
theorem cd_51_100 : mt_cd 51 100 = some (.aload_n 0) := mt_cd_of (q := (100, .aload_n 0, 1)) mq_51 ci_51 (List.mem_append_left _ (show _ ∈ my_51_0 from List.mem_of_getElem? (i := 49) rfl))
theorem cd_51_101 : mt_cd 51 101 = some (.getfield 19) := mt_cd_of (q := (101, .getfield 19, 3)) mq_51 ci_51 (List.mem_append_left _ (show _ ∈ my_51_0 from List.mem_of_getElem? (i := 50) rfl))
theorem cd_51_104 : mt_cd 51 104 = some (.getfield 151) := mt_cd_of (q := (104, .getfield 151, 3)) mq_51 ci_51 (List.mem_append_left _ (show _ ∈ my_51_0 from List.mem_of_getElem? (i := 51) rfl))
theorem cd_51_107 : mt_cd 51 107 = some (.iload 5) := mt_cd_of (q := (107, .iload 5, 2)) mq_51 ci_51 (List.mem_append_left _ (show _ ∈ my_51_0 from List.mem_of_getElem? (i := 52) rfl))
theorem cd_51_109 : mt_cd 51 109 = some (.aload_n 0) := mt_cd_of (q := (109, .aload_n 0, 1)) mq_51 ci_51 (List.mem_append_left _ (show _ ∈ my_51_0 from List.mem_of_getElem? (i := 53) rfl))
theorem cd_51_110 : mt_cd 51 110 = some (.aload_n 0) := mt_cd_of (q := (110, .aload_n 0, 1)) mq_51 ci_51 (List.mem_append_left _ (show _ ∈ my_51_0 from List.mem_of_getElem? (i := 54) rfl))
theorem cd_51_111 : mt_cd 51 111 = some (.getfield 34) := mt_cd_of (q := (111, .getfield 34, 3)) mq_51 ci_51 (List.mem_append_left _ (show _ ∈ my_51_0 from List.mem_of_getElem? (i := 55) rfl))
theorem cd_51_114 : mt_cd 51 114 = some (.invokevirtual 131) := mt_cd_of (q := (114, .invokevirtual 131, 3)) mq_51 ci_51 (List.mem_append_left _ (show _ ∈ my_51_0 from List.mem_of_getElem? (i := 56) rfl))
theorem cd_51_117 : mt_cd 51 117 = some (.iastore) := mt_cd_of (q := (117, .iastore, 1)) mq_51 ci_51 (List.mem_append_left _ (show _ ∈ my_51_0 from List.mem_of_getElem? (i := 57) rfl))
theorem cd_51_118 : mt_cd 51 118 = some (.aload_n 0) := mt_cd_of (q := (118, .aload_n 0, 1)) mq_51 ci_51 (List.mem_append_left _ (show _ ∈ my_51_0 from List.mem_of_getElem? (i := 58) rfl))
theorem cd_51_119 : mt_cd 51 119 = some (.getfield 19) := mt_cd_of (q := (119, .getfield 19, 3)) mq_51 ci_51 (List.mem_append_left _ (show _ ∈ my_51_0 from List.mem_of_getElem? (i := 59) rfl))
theorem cd_51_122 : mt_cd 51 122 = some (.getfield 154) := mt_cd_of (q := (122, .getfield 154, 3)) mq_51 ci_51 (List.mem_append_right _ ((show _ ∈ my_51_1 from List.mem_of_getElem? (i := 0) rfl)))
theorem cd_51_125 : mt_cd 51 125 = some (.iload 5) := mt_cd_of (q := (125, .iload 5, 2)) mq_51 ci_51 (List.mem_append_right _ ((show _ ∈ my_51_1 from List.mem_of_getElem? (i := 1) rfl)))
theorem cd_51_127 : mt_cd 51 127 = some (.aload_n 0) := mt_cd_of (q := (127, .aload_n 0, 1)) mq_51 ci_51 (List.mem_append_right _ ((show _ ∈ my_51_1 from List.mem_of_getElem? (i := 2) rfl)))
theorem cd_51_128 : mt_cd 51 128 = some (.aload_n 0) := mt_cd_of (q := (128, .aload_n 0, 1)) mq_51 ci_51 (List.mem_append_right _ ((show _ ∈ my_51_1 from List.mem_of_getElem? (i := 3) rfl)))
theorem cd_51_129 : mt_cd 51 129 = some (.getfield 38) := mt_cd_of (q := (129, .getfield 38, 3)) mq_51 ci_51 (List.mem_append_right _ ((show _ ∈ my_51_1 from List.mem_of_getElem? (i := 4) rfl)))
theorem cd_51_132 : mt_cd 51 132 = some (.invokevirtual 131) := mt_cd_of (q := (132, .invokevirtual 131, 3)) mq_51 ci_51 (List.mem_append_right _ ((show _ ∈ my_51_1 from List.mem_of_getElem? (i := 5) rfl)))
theorem cd_51_135 : mt_cd 51 135 = some (.iastore) := mt_cd_of (q := (135, .iastore, 1)) mq_51 ci_51 (List.mem_append_right _ ((show _ ∈ my_51_1 from List.mem_of_getElem? (i := 6) rfl)))
theorem cd_51_136 : mt_cd 51 136 = some (.aload_n 0) := mt_cd_of (q := (136, .aload_n 0, 1)) mq_51 ci_51 (List.mem_append_right _ ((show _ ∈ my_51_1 from List.mem_of_getElem? (i := 7) rfl)))
theorem cd_51_137 : mt_cd 51 137 = some (.getfield 19) := mt_cd_of (q := (137, .getfield 19, 3)) mq_51 ci_51 (List.mem_append_right _ ((show _ ∈ my_51_1 from List.mem_of_getElem? (i := 8) rfl)))
theorem cd_51_140 : mt_cd 51 140 = some (.getfield 109) := mt_cd_of (q := (140, .getfield 109, 3)) mq_51 ci_51 (List.mem_append_right _ ((show _ ∈ my_51_1 from List.mem_of_getElem? (i := 9) rfl)))
theorem cd_51_143 : mt_cd 51 143 = some (.iload 5) := mt_cd_of (q := (143, .iload 5, 2)) mq_51 ci_51 (List.mem_append_right _ ((show _ ∈ my_51_1 from List.mem_of_getElem? (i := 10) rfl)))
theorem cd_51_145 : mt_cd 51 145 = some (.aload_n 0) := mt_cd_of (q := (145, .aload_n 0, 1)) mq_51 ci_51 (List.mem_append_right _ ((show _ ∈ my_51_1 from List.mem_of_getElem? (i := 11) rfl)))
theorem cd_51_146 : mt_cd 51 146 = some (.iload_n 3) := mt_cd_of (q := (146, .iload_n 3, 1)) mq_51 ci_51 (List.mem_append_right _ ((show _ ∈ my_51_1 from List.mem_of_getElem? (i := 12) rfl)))
theorem cd_51_147 : mt_cd 51 147 = some (.iconst 1) := mt_cd_of (q := (147, .iconst 1, 1)) mq_51 ci_51 (List.mem_append_right _ ((show _ ∈ my_51_1 from List.mem_of_getElem? (i := 13) rfl)))
theorem cd_51_148 : mt_cd 51 148 = some (.iadd) := mt_cd_of (q := (148, .iadd, 1)) mq_51 ci_51 (List.mem_append_right _ ((show _ ∈ my_51_1 from List.mem_of_getElem? (i := 14) rfl)))
theorem cd_51_149 : mt_cd 51 149 = some (.invokevirtual 113) := mt_cd_of (q := (149, .invokevirtual 113, 3)) mq_51 ci_51 (List.mem_append_right _ ((show _ ∈ my_51_1 from List.mem_of_getElem? (i := 15) rfl)))
theorem cd_51_152 : mt_cd 51 152 = some (.iastore) := mt_cd_of (q := (152, .iastore, 1)) mq_51 ci_51 (List.mem_append_right _ ((show _ ∈ my_51_1 from List.mem_of_getElem? (i := 16) rfl)))
theorem cd_51_153 : mt_cd 51 153 = some (.goto 50) := mt_cd_of (q := (153, .goto 50, 3)) mq_51 ci_51 (List.mem_append_right _ ((show _ ∈ my_51_1 from List.mem_of_getElem? (i := 17) rfl)))
theorem cd_51_156 : mt_cd 51 156 = some (.iload 4) := mt_cd_of (q := (156, .iload 4, 2)) mq_51 ci_51 (List.mem_append_right _ ((show _ ∈ my_51_1 from List.mem_of_getElem? (i := 18) rfl)))
theorem cd_51_158 : mt_cd 51 158 = some (.bipush 9) := mt_cd_of (q := (158, .bipush 9, 2)) mq_51 ci_51 (List.mem_append_right _ ((show _ ∈ my_51_1 from List.mem_of_getElem? (i := 19) rfl)))
theorem cd_51_160 : mt_cd 51 160 = some (.if_icmp .ne 26) := mt_cd_of (q := (160, .if_icmp .ne 26, 3)) mq_51 ci_51 (List.mem_append_right _ ((show _ ∈ my_51_1 from List.mem_of_getElem? (i := 20) rfl)))
theorem cd_51_163 : mt_cd 51 163 = some (.aload_n 0) := mt_cd_of (q := (163, .aload_n 0, 1)) mq_51 ci_51 (List.mem_append_right _ ((show _ ∈ my_51_1 from List.mem_of_getElem? (i := 21) rfl)))
theorem cd_51_164 : mt_cd 51 164 = some (.getfield 19) := mt_cd_of (q := (164, .getfield 19, 3)) mq_51 ci_51 (List.mem_append_right _ ((show _ ∈ my_51_1 from List.mem_of_getElem? (i := 22) rfl)))
theorem cd_51_167 : mt_cd 51 167 = some (.getfield 128) := mt_cd_of (q := (167, .getfield 128, 3)) mq_51 ci_51 (List.mem_append_right _ ((show _ ∈ my_51_1 from List.mem_of_getElem? (i := 23) rfl)))
theorem cd_51_170 : mt_cd 51 170 = some (.iload 5) := mt_cd_of (q := (170, .iload 5, 2)) mq_51 ci_51 (List.mem_append_right _ ((show _ ∈ my_51_1 from List.mem_of_getElem? (i := 24) rfl)))
theorem cd_51_172 : mt_cd 51 172 = some (.aload_n 0) := mt_cd_of (q := (172, .aload_n 0, 1)) mq_51 ci_51 (List.mem_append_right _ ((show _ ∈ my_51_1 from List.mem_of_getElem? (i := 25) rfl)))
theorem cd_51_173 : mt_cd 51 173 = some (.invokevirtual 157) := mt_cd_of (q := (173, .invokevirtual 157, 3)) mq_51 ci_51 (List.mem_append_right _ ((show _ ∈ my_51_1 from List.mem_of_getElem? (i := 26) rfl)))
theorem cd_51_176 : mt_cd 51 176 = some (.iastore) := mt_cd_of (q := (176, .iastore, 1)) mq_51 ci_51 (List.mem_append_right _ ((show _ ∈ my_51_1 from List.mem_of_getElem? (i := 27) rfl)))
theorem cd_51_177 : mt_cd 51 177 = some (.aload_n 0) := mt_cd_of (q := (177, .aload_n 0, 1)) mq_51 ci_51 (List.mem_append_right _ ((show _ ∈ my_51_1 from List.mem_of_getElem? (i := 28) rfl)))
theorem cd_51_178 : mt_cd 51 178 = some (.iload 5) := mt_cd_of (q := (178, .iload 5, 2)) mq_51 ci_51 (List.mem_append_right _ ((show _ ∈ my_51_1 from List.mem_of_getElem? (i := 29) rfl)))
theorem cd_51_180 : mt_cd 51 180 = some (.invokevirtual 160) := mt_cd_of (q := (180, .invokevirtual 160, 3)) mq_51 ci_51 (List.mem_append_right _ ((show _ ∈ my_51_1 from List.mem_of_getElem? (i := 30) rfl)))
theorem cd_51_183 : mt_cd 51 183 = some (.goto 20) := mt_cd_of (q := (183, .goto 20, 3)) mq_51 ci_51 (List.mem_append_right _ ((show _ ∈ my_51_1 from List.mem_of_getElem? (i := 31) rfl)))
theorem cd_51_186 : mt_cd 51 186 = some (.aload_n 0) := mt_cd_of (q := (186, .aload_n 0, 1)) mq_51 ci_51 (List.mem_append_right _ ((show _ ∈ my_51_1 from List.mem_of_getElem? (i := 32) rfl)))
theorem cd_51_187 : mt_cd 51 187 = some (.getfield 19) := mt_cd_of (q := (187, .getfield 19, 3)) mq_51 ci_51 (List.mem_append_right _ ((show _ ∈ my_51_1 from List.mem_of_getElem? (i := 33) rfl)))
theorem cd_51_190 : mt_cd 51 190 = some (.getfield 109) := mt_cd_of (q := (190, .getfield 109, 3)) mq_51 ci_51 (List.mem_append_right _ ((show _ ∈ my_51_1 from List.mem_of_getElem? (i := 34) rfl)))
theorem cd_51_193 : mt_cd 51 193 = some (.iload 5) := mt_cd_of (q := (193, .iload 5, 2)) mq_51 ci_51 (List.mem_append_right _ ((show _ ∈ my_51_1 from List.mem_of_getElem? (i := 35) rfl)))
theorem cd_51_195 : mt_cd 51 195 = some (.aload_n 0) := mt_cd_of (q := (195, .aload_n 0, 1)) mq_51 ci_51 (List.mem_append_right _ ((show _ ∈ my_51_1 from List.mem_of_getElem? (i := 36) rfl)))
theorem cd_51_196 : mt_cd 51 196 = some (.iload_n 3) := mt_cd_of (q := (196, .iload_n 3, 1)) mq_51 ci_51 (List.mem_append_right _ ((show _ ∈ my_51_1 from List.mem_of_getElem? (i := 37) rfl)))
theorem cd_51_197 : mt_cd 51 197 = some (.iconst 1) := mt_cd_of (q := (197, .iconst 1, 1)) mq_51 ci_51 (List.mem_append_right _ ((show _ ∈ my_51_1 from List.mem_of_getElem? (i := 38) rfl)))
theorem cd_51_198 : mt_cd 51 198 = some (.iadd) := mt_cd_of (q := (198, .iadd, 1)) mq_51 ci_51 (List.mem_append_right _ ((show _ ∈ my_51_1 from List.mem_of_getElem? (i := 39) rfl)))
theorem cd_51_199 : mt_cd 51 199 = some (.invokevirtual 135) := mt_cd_of (q := (199, .invokevirtual 135, 3)) mq_51 ci_51 (List.mem_append_right _ ((show _ ∈ my_51_1 from List.mem_of_getElem? (i := 40) rfl)))
theorem cd_51_202 : mt_cd 51 202 = some (.iastore) := mt_cd_of (q := (202, .iastore, 1)) mq_51 ci_51 (List.mem_append_right _ ((show _ ∈ my_51_1 from List.mem_of_getElem? (i := 41) rfl)))
theorem cd_51_203 : mt_cd 51 203 = some (.aload_n 0) := mt_cd_of (q := (203, .aload_n 0, 1)) mq_51 ci_51 (List.mem_append_right _ ((show _ ∈ my_51_1 from List.mem_of_getElem? (i := 42) rfl)))
theorem cd_51_204 : mt_cd 51 204 = some (.getfield 19) := mt_cd_of (q := (204, .getfield 19, 3)) mq_51 ci_51 (List.mem_append_right _ ((show _ ∈ my_51_1 from List.mem_of_getElem? (i := 43) rfl)))
theorem cd_51_207 : mt_cd 51 207 = some (.getfield 138) := mt_cd_of (q := (207, .getfield 138, 3)) mq_51 ci_51 (List.mem_append_right _ ((show _ ∈ my_51_1 from List.mem_of_getElem? (i := 44) rfl)))
theorem cd_51_210 : mt_cd 51 210 = some (.iload 5) := mt_cd_of (q := (210, .iload 5, 2)) mq_51 ci_51 (List.mem_append_right _ ((show _ ∈ my_51_1 from List.mem_of_getElem? (i := 45) rfl)))
theorem cd_51_212 : mt_cd 51 212 = some (.aload_n 0) := mt_cd_of (q := (212, .aload_n 0, 1)) mq_51 ci_51 (List.mem_append_right _ ((show _ ∈ my_51_1 from List.mem_of_getElem? (i := 46) rfl)))
theorem cd_51_213 : mt_cd 51 213 = some (.iload_n 3) := mt_cd_of (q := (213, .iload_n 3, 1)) mq_51 ci_51 (List.mem_append_right _ ((show _ ∈ my_51_1 from List.mem_of_getElem? (i := 47) rfl)))
theorem cd_51_214 : mt_cd 51 214 = some (.iconst 1) := mt_cd_of (q := (214, .iconst 1, 1)) mq_51 ci_51 (List.mem_append_right _ ((show _ ∈ my_51_1 from List.mem_of_getElem? (i := 48) rfl)))
theorem cd_51_215 : mt_cd 51 215 = some (.iadd) := mt_cd_of (q := (215, .iadd, 1)) mq_51 ci_51 (List.mem_append_right _ ((show _ ∈ my_51_1 from List.mem_of_getElem? (i := 49) rfl)))
theorem cd_51_216 : mt_cd 51 216 = some (.invokevirtual 96) := mt_cd_of (q := (216, .invokevirtual 96, 3)) mq_51 ci_51 (List.mem_append_right _ ((show _ ∈ my_51_1 from List.mem_of_getElem? (i := 50) rfl)))
theorem cd_51_219 : mt_cd 51 219 = some (.iastore) := mt_cd_of (q := (219, .iastore, 1)) mq_51 ci_51 (List.mem_append_right _ ((show _ ∈ my_51_1 from List.mem_of_getElem? (i := 51) rfl)))
theorem cd_51_220 : mt_cd 51 220 = some (.iload 5) := mt_cd_of (q := (220, .iload 5, 2)) mq_51 ci_51 (List.mem_append_right _ ((show _ ∈ my_51_1 from List.mem_of_getElem? (i := 52) rfl)))
theorem cd_51_222 : mt_cd 51 222 = some (.ireturn) := mt_cd_of (q := (222, .ireturn, 1)) mq_51 ci_51 (List.mem_append_right _ ((show _ ∈ my_51_1 from List.mem_of_getElem? (i := 53) rfl)))
theorem b_51_0 {d : Nat} {Q : (Option Value ⊕ Nat) → mi_H → Prop} (n sl : Nat) (f : Nat → mi_C) {l1 : Nat} {l2 : Int32} {l3 : Int32} {l4 : Int32} {o5 : Option Value} {o6 : Option Value} {fs7 : List Value} {x10 : Nat} {fs12 : List Value} {x15 : Int32} (h8 : f l1 = .inr (3, fs7)) (h9 : l1 < n) (h11 : fs7[0]? = some (.ref x10)) (h13 : f x10 = .inr (1, fs12)) (h14 : x10 < n) (h16 : fs12[2]? = some (.int x15)) (h17 : x15 = 8 → mi_W d 51 31 [some (.ref l1), some (.int l2), some (.int l3), some (.int l4), some (.int x15), o6] [.ref l1] (n, sl, f) Q) (h18 : ¬ (x15 = 8) → mi_W d 51 17 [some (.ref l1), some (.int l2), some (.int l3), some (.int l4), some (.int x15), o6] [.ref l1] (n, sl, f) Q) : mi_W d 51 0 [some (.ref l1), some (.int l2), some (.int l3), some (.int l4), o5, o6] [] (n, sl, f) Q := by
  refine w_aload_n cd_51_0 rfl ?_
  refine w_getfield cd_51_1 (show mt_f 3 15 = some (3, 0) by decide +kernel) h8 h9 h11 ?_
  refine w_getfield cd_51_4 (show mt_f 3 67 = some (1, 2) by decide +kernel) h13 h14 h16 ?_
  refine w_istore (ls' := [some (.ref l1), some (.int l2), some (.int l3), some (.int l4), some (.int x15), o6]) cd_51_7 (Nat.le_of_ble_eq_true rfl) rfl ?_
  refine w_aload_n cd_51_9 rfl ?_
  refine w_iload cd_51_10 rfl ?_
  refine w_bipush (v := 8) cd_51_12 (by decide) ?_
  exact w_if_icmpeq cd_51_14 (by decide) h17 h18
theorem b_51_17 {d : Nat} {Q : (Option Value ⊕ Nat) → mi_H → Prop} (n sl : Nat) (f : Nat → mi_C) {l1 : Nat} {l2 : Int32} {l3 : Int32} {l4 : Int32} {l5 : Int32} {o6 : Option Value} {s7 : Nat} (h8 : l5 = 9 → mi_W d 51 31 [some (.ref l1), some (.int l2), some (.int l3), some (.int l4), some (.int l5), o6] [.ref s7] (n, sl, f) Q) (h9 : ¬ (l5 = 9) → mi_W d 51 24 [some (.ref l1), some (.int l2), some (.int l3), some (.int l4), some (.int l5), o6] [.ref s7] (n, sl, f) Q) : mi_W d 51 17 [some (.ref l1), some (.int l2), some (.int l3), some (.int l4), some (.int l5), o6] [.ref s7] (n, sl, f) Q := by
  refine w_iload cd_51_17 rfl ?_
  refine w_bipush (v := 9) cd_51_19 (by decide) ?_
  exact w_if_icmpeq cd_51_21 (by decide) h8 h9
theorem b_51_24 {d : Nat} {Q : (Option Value ⊕ Nat) → mi_H → Prop} (n sl : Nat) (f : Nat → mi_C) {l1 : Nat} {l2 : Int32} {l3 : Int32} {l4 : Int32} {l5 : Int32} {o6 : Option Value} {s7 : Nat} (h8 : ¬ l5 = 10 → mi_W d 51 35 [some (.ref l1), some (.int l2), some (.int l3), some (.int l4), some (.int l5), o6] [.ref s7] (n, sl, f) Q) (h9 : ¬ (¬ l5 = 10) → mi_W d 51 31 [some (.ref l1), some (.int l2), some (.int l3), some (.int l4), some (.int l5), o6] [.ref s7] (n, sl, f) Q) : mi_W d 51 24 [some (.ref l1), some (.int l2), some (.int l3), some (.int l4), some (.int l5), o6] [.ref s7] (n, sl, f) Q := by
  refine w_iload cd_51_24 rfl ?_
  refine w_bipush (v := 10) cd_51_26 (by decide) ?_
  exact w_if_icmpne cd_51_28 (by decide) h8 h9
theorem b_51_31 {d : Nat} {Q : (Option Value ⊕ Nat) → mi_H → Prop} (n sl : Nat) (f : Nat → mi_C) {l1 : Nat} {l2 : Int32} {l3 : Int32} {l4 : Int32} {l5 : Int32} {o6 : Option Value} {s7 : Nat} (h8 : mi_W d 51 36 [some (.ref l1), some (.int l2), some (.int l3), some (.int l4), some (.int l5), o6] [.int 1, .ref s7] (n, sl, f) Q) : mi_W d 51 31 [some (.ref l1), some (.int l2), some (.int l3), some (.int l4), some (.int l5), o6] [.ref s7] (n, sl, f) Q := by
  refine w_iconst (v := 1) cd_51_31 (by decide) ?_
  exact w_goto cd_51_32 (by decide) h8
theorem b_51_35 {d : Nat} {Q : (Option Value ⊕ Nat) → mi_H → Prop} (n sl : Nat) (f : Nat → mi_C) {l1 : Nat} {l2 : Int32} {l3 : Int32} {l4 : Int32} {l5 : Int32} {o6 : Option Value} {s7 : Nat} (h8 : mi_W d 51 36 [some (.ref l1), some (.int l2), some (.int l3), some (.int l4), some (.int l5), o6] [.int 0, .ref s7] (n, sl, f) Q) : mi_W d 51 35 [some (.ref l1), some (.int l2), some (.int l3), some (.int l4), some (.int l5), o6] [.ref s7] (n, sl, f) Q := by
  refine w_iconst (v := 0) cd_51_35 (by decide) ?_
  exact h8
theorem b_51_36 {d : Nat} {Q : (Option Value ⊕ Nat) → mi_H → Prop} (n sl : Nat) (f : Nat → mi_C) {l1 : Nat} {l2 : Int32} {l3 : Int32} {l4 : Int32} {l5 : Int32} {o6 : Option Value} {s7 : Int32} {s8 : Nat} {fs9 : List Value} (h10 : f s8 = .inr (3, fs9)) (h11 : s8 < n) (h12 : mi_W d 38 0 (mi_en 2 [.ref s8, .int s7]) [] (n, sl, f) (mi_Kc d 51 36 [some (.ref l1), some (.int l2), some (.int l3), some (.int l4), some (.int l5), o6] [] Q)) : mi_W (d + 1) 51 36 [some (.ref l1), some (.int l2), some (.int l3), some (.int l4), some (.int l5), o6] [.int s7, .ref s8] (n, sl, f) Q := by
  exact w_invokevirtual cd_51_36 (show mt_m 3 70 = some (38, 0) by decide +kernel) (rest := []) rfl (as := [.ref s8, .int s7]) rfl h10 (Or.inl h11) ⟨Nat.le_of_ble_eq_true rfl, Nat.le_of_ble_eq_true rfl, Nat.le_of_ble_eq_true rfl⟩ h12
theorem b_51_39 {d : Nat} {Q : (Option Value ⊕ Nat) → mi_H → Prop} (n sl : Nat) (f : Nat → mi_C) {l1 : Nat} {l2 : Int32} {l3 : Int32} {l4 : Int32} {l5 : Int32} {o6 : Option Value} {fs7 : List Value} (h8 : f l1 = .inr (3, fs7)) (h9 : l1 < n) (h10 : mi_W d 40 0 (mi_en 2 [.ref l1]) [] (n, sl, f) (mi_Kc d 51 40 [some (.ref l1), some (.int l2), some (.int l3), some (.int l4), some (.int l5), o6] [] Q)) : mi_W (d + 1) 51 39 [some (.ref l1), some (.int l2), some (.int l3), some (.int l4), some (.int l5), o6] [] (n, sl, f) Q := by
  refine w_aload_n cd_51_39 rfl ?_
  exact w_invokevirtual cd_51_40 (show mt_m 3 102 = some (40, 0) by decide +kernel) (rest := []) rfl (as := [.ref l1]) rfl h8 (Or.inl h9) ⟨Nat.le_of_ble_eq_true rfl, Nat.le_of_ble_eq_true rfl, Nat.le_of_ble_eq_true rfl⟩ h10
theorem b_51_43 {d : Nat} {Q : (Option Value ⊕ Nat) → mi_H → Prop} (n sl : Nat) (f : Nat → mi_C) {l1 : Nat} {l2 : Int32} {l3 : Int32} {l4 : Int32} {l5 : Int32} {o6 : Option Value} {s7 : Int32} (h8 : ¬ l3 = ((-1)) → mi_W d 51 64 [some (.ref l1), some (.int l2), some (.int l3), some (.int l4), some (.int l5), some (.int s7)] [] (n, sl, f) Q) (h9 : ¬ (¬ l3 = ((-1))) → mi_W d 51 50 [some (.ref l1), some (.int l2), some (.int l3), some (.int l4), some (.int l5), some (.int s7)] [] (n, sl, f) Q) : mi_W d 51 43 [some (.ref l1), some (.int l2), some (.int l3), some (.int l4), some (.int l5), o6] [.int s7] (n, sl, f) Q := by
  refine w_istore (ls' := [some (.ref l1), some (.int l2), some (.int l3), some (.int l4), some (.int l5), some (.int s7)]) cd_51_43 (Nat.le_of_ble_eq_true rfl) rfl ?_
  refine w_iload_n cd_51_45 rfl ?_
  refine w_iconst (v := (-1)) cd_51_46 (by decide) ?_
  exact w_if_icmpne cd_51_47 (by decide) h8 h9
theorem b_51_50 {d : Nat} {Q : (Option Value ⊕ Nat) → mi_H → Prop} (n sl : Nat) (f : Nat → mi_C) {l1 : Nat} {l2 : Int32} {l3 : Int32} {l4 : Int32} {l5 : Int32} {l6 : Int32} {fs7 : List Value} {x10 : Nat} {fs12 : List Value} {x15 : Nat} (m17 i17 : Nat) (g17 : Nat → Int32) (h8 : f l1 = .inr (3, fs7)) (h9 : l1 < n) (h11 : fs7[1]? = some (.ref x10)) (h13 : f x10 = .inr (2, fs12)) (h14 : x10 < n) (h16 : fs12[1]? = some (.ref x15)) (h18 : f x15 = .inl (0, m17, .inl g17)) (h19 : x15 < n) (h20 : mi_ix l2 m17 i17) (h21 : mi_W d 51 75 [some (.ref l1), some (.int l2), some (.int l3), some (.int l4), some (.int l5), some (.int l6)] [] (n, sl, (va_up f x15 (.inl (0, m17, .inl (upd g17 i17 l6))))) Q) : mi_W d 51 50 [some (.ref l1), some (.int l2), some (.int l3), some (.int l4), some (.int l5), some (.int l6)] [] (n, sl, f) Q := by
  refine w_aload_n cd_51_50 rfl ?_
  refine w_getfield cd_51_51 (show mt_f 3 19 = some (3, 1) by decide +kernel) h8 h9 h11 ?_
  refine w_getfield cd_51_54 (show mt_f 3 109 = some (2, 1) by decide +kernel) h13 h14 h16 ?_
  refine w_iload_n cd_51_57 rfl ?_
  refine w_iload cd_51_58 rfl ?_
  refine w_iastore cd_51_60 h18 h19 h20 ?_
  exact w_goto cd_51_61 (by decide) h21
theorem b_51_64 {d : Nat} {Q : (Option Value ⊕ Nat) → mi_H → Prop} (n sl : Nat) (f : Nat → mi_C) {l1 : Nat} {l2 : Int32} {l3 : Int32} {l4 : Int32} {l5 : Int32} {l6 : Int32} {fs7 : List Value} {x10 : Nat} {fs12 : List Value} {x15 : Nat} (m17 i17 : Nat) (g17 : Nat → Int32) (h8 : f l1 = .inr (3, fs7)) (h9 : l1 < n) (h11 : fs7[1]? = some (.ref x10)) (h13 : f x10 = .inr (2, fs12)) (h14 : x10 < n) (h16 : fs12[3]? = some (.ref x15)) (h18 : f x15 = .inl (0, m17, .inl g17)) (h19 : x15 < n) (h20 : mi_ix l3 m17 i17) (h21 : mi_W d 51 75 [some (.ref l1), some (.int l2), some (.int l3), some (.int l4), some (.int l5), some (.int l6)] [] (n, sl, (va_up f x15 (.inl (0, m17, .inl (upd g17 i17 l6))))) Q) : mi_W d 51 64 [some (.ref l1), some (.int l2), some (.int l3), some (.int l4), some (.int l5), some (.int l6)] [] (n, sl, f) Q := by
  refine w_aload_n cd_51_64 rfl ?_
  refine w_getfield cd_51_65 (show mt_f 3 19 = some (3, 1) by decide +kernel) h8 h9 h11 ?_
  refine w_getfield cd_51_68 (show mt_f 3 141 = some (2, 3) by decide +kernel) h13 h14 h16 ?_
  refine w_iload_n cd_51_71 rfl ?_
  refine w_iload cd_51_72 rfl ?_
  refine w_iastore cd_51_74 h18 h19 h20 ?_
  exact h21
theorem b_51_75 {d : Nat} {Q : (Option Value ⊕ Nat) → mi_H → Prop} (n sl : Nat) (f : Nat → mi_C) {l1 : Nat} {l2 : Int32} {l3 : Int32} {l4 : Int32} {l5 : Int32} {l6 : Int32} (h7 : ¬ l5 = 8 → mi_W d 51 156 [some (.ref l1), some (.int l2), some (.int l3), some (.int l4), some (.int l5), some (.int l6)] [] (n, sl, f) Q) (h8 : ¬ (¬ l5 = 8) → mi_W d 51 82 [some (.ref l1), some (.int l2), some (.int l3), some (.int l4), some (.int l5), some (.int l6)] [] (n, sl, f) Q) : mi_W d 51 75 [some (.ref l1), some (.int l2), some (.int l3), some (.int l4), some (.int l5), some (.int l6)] [] (n, sl, f) Q := by
  refine w_iload cd_51_75 rfl ?_
  refine w_bipush (v := 8) cd_51_77 (by decide) ?_
  exact w_if_icmpne cd_51_79 (by decide) h7 h8
theorem b_51_82 {d : Nat} {Q : (Option Value ⊕ Nat) → mi_H → Prop} (n sl : Nat) (f : Nat → mi_C) {l1 : Nat} {l2 : Int32} {l3 : Int32} {l4 : Int32} {l5 : Int32} {l6 : Int32} {fs7 : List Value} {x10 : Nat} {fs12 : List Value} {x15 : Nat} {fs17 : List Value} {x20 : Nat} {fs22 : List Value} (h8 : f l1 = .inr (3, fs7)) (h9 : l1 < n) (h11 : fs7[1]? = some (.ref x10)) (h13 : f x10 = .inr (2, fs12)) (h14 : x10 < n) (h16 : fs12[4]? = some (.ref x15)) (h18 : f l1 = .inr (3, fs17)) (h19 : l1 < n) (h21 : fs17[2]? = some (.ref x20)) (h23 : f l1 = .inr (3, fs22)) (h24 : l1 < n) (h25 : mi_W d 43 0 (mi_en 3 [.ref l1, .ref x20]) [] (n, sl, f) (mi_Kc d 51 96 [some (.ref l1), some (.int l2), some (.int l3), some (.int l4), some (.int l5), some (.int l6)] [.int l6, .ref x15] Q)) : mi_W (d + 1) 51 82 [some (.ref l1), some (.int l2), some (.int l3), some (.int l4), some (.int l5), some (.int l6)] [] (n, sl, f) Q := by
  refine w_aload_n cd_51_82 rfl ?_
  refine w_getfield cd_51_83 (show mt_f 3 19 = some (3, 1) by decide +kernel) h8 h9 h11 ?_
  refine w_getfield cd_51_86 (show mt_f 3 128 = some (2, 4) by decide +kernel) h13 h14 h16 ?_
  refine w_iload cd_51_89 rfl ?_
  refine w_aload_n cd_51_91 rfl ?_
  refine w_aload_n cd_51_92 rfl ?_
  refine w_getfield cd_51_93 (show mt_f 3 34 = some (3, 2) by decide +kernel) h18 h19 h21 ?_
  exact w_invokevirtual cd_51_96 (show mt_m 3 131 = some (43, 0) by decide +kernel) (rest := [.int l6, .ref x15]) rfl (as := [.ref l1, .ref x20]) rfl h23 (Or.inl h24) ⟨Nat.le_of_ble_eq_true rfl, Nat.le_of_ble_eq_true rfl, Nat.le_of_ble_eq_true rfl⟩ h25
theorem b_51_99 {d : Nat} {Q : (Option Value ⊕ Nat) → mi_H → Prop} (n sl : Nat) (f : Nat → mi_C) {l1 : Nat} {l2 : Int32} {l3 : Int32} {l4 : Int32} {l5 : Int32} {l6 : Int32} {s7 : Int32} {s8 : Int32} {s9 : Nat} (m10 i10 : Nat) (g10 : Nat → Int32) {fs14 : List Value} {x17 : Nat} {fs19 : List Value} {x22 : Nat} {fs24 : List Value} {x27 : Nat} {fs29 : List Value} (h11 : f s9 = .inl (0, m10, .inl g10)) (h12 : s9 < n) (h13 : mi_ix s8 m10 i10) (h15 : (va_up f s9 (.inl (0, m10, .inl (upd g10 i10 s7)))) l1 = .inr (3, fs14)) (h16 : l1 < n) (h18 : fs14[1]? = some (.ref x17)) (h20 : (va_up f s9 (.inl (0, m10, .inl (upd g10 i10 s7)))) x17 = .inr (2, fs19)) (h21 : x17 < n) (h23 : fs19[5]? = some (.ref x22)) (h25 : (va_up f s9 (.inl (0, m10, .inl (upd g10 i10 s7)))) l1 = .inr (3, fs24)) (h26 : l1 < n) (h28 : fs24[2]? = some (.ref x27)) (h30 : (va_up f s9 (.inl (0, m10, .inl (upd g10 i10 s7)))) l1 = .inr (3, fs29)) (h31 : l1 < n) (h32 : mi_W d 43 0 (mi_en 3 [.ref l1, .ref x27]) [] (n, sl, (va_up f s9 (.inl (0, m10, .inl (upd g10 i10 s7))))) (mi_Kc d 51 114 [some (.ref l1), some (.int l2), some (.int l3), some (.int l4), some (.int l5), some (.int l6)] [.int l6, .ref x22] Q)) : mi_W (d + 1) 51 99 [some (.ref l1), some (.int l2), some (.int l3), some (.int l4), some (.int l5), some (.int l6)] [.int s7, .int s8, .ref s9] (n, sl, f) Q := by
  refine w_iastore cd_51_99 h11 h12 h13 ?_
  refine w_aload_n cd_51_100 rfl ?_
  refine w_getfield cd_51_101 (show mt_f 3 19 = some (3, 1) by decide +kernel) h15 h16 h18 ?_
  refine w_getfield cd_51_104 (show mt_f 3 151 = some (2, 5) by decide +kernel) h20 h21 h23 ?_
  refine w_iload cd_51_107 rfl ?_
  refine w_aload_n cd_51_109 rfl ?_
  refine w_aload_n cd_51_110 rfl ?_
  refine w_getfield cd_51_111 (show mt_f 3 34 = some (3, 2) by decide +kernel) h25 h26 h28 ?_
  exact w_invokevirtual cd_51_114 (show mt_m 3 131 = some (43, 0) by decide +kernel) (rest := [.int l6, .ref x22]) rfl (as := [.ref l1, .ref x27]) rfl h30 (Or.inl h31) ⟨Nat.le_of_ble_eq_true rfl, Nat.le_of_ble_eq_true rfl, Nat.le_of_ble_eq_true rfl⟩ h32
theorem b_51_117 {d : Nat} {Q : (Option Value ⊕ Nat) → mi_H → Prop} (n sl : Nat) (f : Nat → mi_C) {l1 : Nat} {l2 : Int32} {l3 : Int32} {l4 : Int32} {l5 : Int32} {l6 : Int32} {s7 : Int32} {s8 : Int32} {s9 : Nat} (m10 i10 : Nat) (g10 : Nat → Int32) {fs14 : List Value} {x17 : Nat} {fs19 : List Value} {x22 : Nat} {fs24 : List Value} {x27 : Nat} {fs29 : List Value} (h11 : f s9 = .inl (0, m10, .inl g10)) (h12 : s9 < n) (h13 : mi_ix s8 m10 i10) (h15 : (va_up f s9 (.inl (0, m10, .inl (upd g10 i10 s7)))) l1 = .inr (3, fs14)) (h16 : l1 < n) (h18 : fs14[1]? = some (.ref x17)) (h20 : (va_up f s9 (.inl (0, m10, .inl (upd g10 i10 s7)))) x17 = .inr (2, fs19)) (h21 : x17 < n) (h23 : fs19[6]? = some (.ref x22)) (h25 : (va_up f s9 (.inl (0, m10, .inl (upd g10 i10 s7)))) l1 = .inr (3, fs24)) (h26 : l1 < n) (h28 : fs24[3]? = some (.ref x27)) (h30 : (va_up f s9 (.inl (0, m10, .inl (upd g10 i10 s7)))) l1 = .inr (3, fs29)) (h31 : l1 < n) (h32 : mi_W d 43 0 (mi_en 3 [.ref l1, .ref x27]) [] (n, sl, (va_up f s9 (.inl (0, m10, .inl (upd g10 i10 s7))))) (mi_Kc d 51 132 [some (.ref l1), some (.int l2), some (.int l3), some (.int l4), some (.int l5), some (.int l6)] [.int l6, .ref x22] Q)) : mi_W (d + 1) 51 117 [some (.ref l1), some (.int l2), some (.int l3), some (.int l4), some (.int l5), some (.int l6)] [.int s7, .int s8, .ref s9] (n, sl, f) Q := by
  refine w_iastore cd_51_117 h11 h12 h13 ?_
  refine w_aload_n cd_51_118 rfl ?_
  refine w_getfield cd_51_119 (show mt_f 3 19 = some (3, 1) by decide +kernel) h15 h16 h18 ?_
  refine w_getfield cd_51_122 (show mt_f 3 154 = some (2, 6) by decide +kernel) h20 h21 h23 ?_
  refine w_iload cd_51_125 rfl ?_
  refine w_aload_n cd_51_127 rfl ?_
  refine w_aload_n cd_51_128 rfl ?_
  refine w_getfield cd_51_129 (show mt_f 3 38 = some (3, 3) by decide +kernel) h25 h26 h28 ?_
  exact w_invokevirtual cd_51_132 (show mt_m 3 131 = some (43, 0) by decide +kernel) (rest := [.int l6, .ref x22]) rfl (as := [.ref l1, .ref x27]) rfl h30 (Or.inl h31) ⟨Nat.le_of_ble_eq_true rfl, Nat.le_of_ble_eq_true rfl, Nat.le_of_ble_eq_true rfl⟩ h32
theorem b_51_135 {d : Nat} {Q : (Option Value ⊕ Nat) → mi_H → Prop} (n sl : Nat) (f : Nat → mi_C) {l1 : Nat} {l2 : Int32} {l3 : Int32} {l4 : Int32} {l5 : Int32} {l6 : Int32} {s7 : Int32} {s8 : Int32} {s9 : Nat} (m10 i10 : Nat) (g10 : Nat → Int32) {fs14 : List Value} {x17 : Nat} {fs19 : List Value} {x22 : Nat} {fs24 : List Value} (h11 : f s9 = .inl (0, m10, .inl g10)) (h12 : s9 < n) (h13 : mi_ix s8 m10 i10) (h15 : (va_up f s9 (.inl (0, m10, .inl (upd g10 i10 s7)))) l1 = .inr (3, fs14)) (h16 : l1 < n) (h18 : fs14[1]? = some (.ref x17)) (h20 : (va_up f s9 (.inl (0, m10, .inl (upd g10 i10 s7)))) x17 = .inr (2, fs19)) (h21 : x17 < n) (h23 : fs19[1]? = some (.ref x22)) (h25 : (va_up f s9 (.inl (0, m10, .inl (upd g10 i10 s7)))) l1 = .inr (3, fs24)) (h26 : l1 < n) (h27 : mi_W d 48 0 (mi_en 5 [.ref l1, .int (l4 + 1)]) [] (n, sl, (va_up f s9 (.inl (0, m10, .inl (upd g10 i10 s7))))) (mi_Kc d 51 149 [some (.ref l1), some (.int l2), some (.int l3), some (.int l4), some (.int l5), some (.int l6)] [.int l6, .ref x22] Q)) : mi_W (d + 1) 51 135 [some (.ref l1), some (.int l2), some (.int l3), some (.int l4), some (.int l5), some (.int l6)] [.int s7, .int s8, .ref s9] (n, sl, f) Q := by
  refine w_iastore cd_51_135 h11 h12 h13 ?_
  refine w_aload_n cd_51_136 rfl ?_
  refine w_getfield cd_51_137 (show mt_f 3 19 = some (3, 1) by decide +kernel) h15 h16 h18 ?_
  refine w_getfield cd_51_140 (show mt_f 3 109 = some (2, 1) by decide +kernel) h20 h21 h23 ?_
  refine w_iload cd_51_143 rfl ?_
  refine w_aload_n cd_51_145 rfl ?_
  refine w_iload_n cd_51_146 rfl ?_
  refine w_iconst (v := 1) cd_51_147 (by decide) ?_
  refine w_iadd cd_51_148 ?_
  exact w_invokevirtual cd_51_149 (show mt_m 3 113 = some (48, 0) by decide +kernel) (rest := [.int l6, .ref x22]) rfl (as := [.ref l1, .int (l4 + 1)]) rfl h25 (Or.inl h26) ⟨Nat.le_of_ble_eq_true rfl, Nat.le_of_ble_eq_true rfl, Nat.le_of_ble_eq_true rfl⟩ h27
theorem b_51_152 {d : Nat} {Q : (Option Value ⊕ Nat) → mi_H → Prop} (n sl : Nat) (f : Nat → mi_C) {l1 : Nat} {l2 : Int32} {l3 : Int32} {l4 : Int32} {l5 : Int32} {l6 : Int32} {s7 : Int32} {s8 : Int32} {s9 : Nat} (m10 i10 : Nat) (g10 : Nat → Int32) (h11 : f s9 = .inl (0, m10, .inl g10)) (h12 : s9 < n) (h13 : mi_ix s8 m10 i10) (h14 : mi_W d 51 203 [some (.ref l1), some (.int l2), some (.int l3), some (.int l4), some (.int l5), some (.int l6)] [] (n, sl, (va_up f s9 (.inl (0, m10, .inl (upd g10 i10 s7))))) Q) : mi_W d 51 152 [some (.ref l1), some (.int l2), some (.int l3), some (.int l4), some (.int l5), some (.int l6)] [.int s7, .int s8, .ref s9] (n, sl, f) Q := by
  refine w_iastore cd_51_152 h11 h12 h13 ?_
  exact w_goto cd_51_153 (by decide) h14
theorem b_51_156 {d : Nat} {Q : (Option Value ⊕ Nat) → mi_H → Prop} (n sl : Nat) (f : Nat → mi_C) {l1 : Nat} {l2 : Int32} {l3 : Int32} {l4 : Int32} {l5 : Int32} {l6 : Int32} (h7 : ¬ l5 = 9 → mi_W d 51 186 [some (.ref l1), some (.int l2), some (.int l3), some (.int l4), some (.int l5), some (.int l6)] [] (n, sl, f) Q) (h8 : ¬ (¬ l5 = 9) → mi_W d 51 163 [some (.ref l1), some (.int l2), some (.int l3), some (.int l4), some (.int l5), some (.int l6)] [] (n, sl, f) Q) : mi_W d 51 156 [some (.ref l1), some (.int l2), some (.int l3), some (.int l4), some (.int l5), some (.int l6)] [] (n, sl, f) Q := by
  refine w_iload cd_51_156 rfl ?_
  refine w_bipush (v := 9) cd_51_158 (by decide) ?_
  exact w_if_icmpne cd_51_160 (by decide) h7 h8
theorem b_51_163 {d : Nat} {Q : (Option Value ⊕ Nat) → mi_H → Prop} (n sl : Nat) (f : Nat → mi_C) {l1 : Nat} {l2 : Int32} {l3 : Int32} {l4 : Int32} {l5 : Int32} {l6 : Int32} {fs7 : List Value} {x10 : Nat} {fs12 : List Value} {x15 : Nat} {fs17 : List Value} (h8 : f l1 = .inr (3, fs7)) (h9 : l1 < n) (h11 : fs7[1]? = some (.ref x10)) (h13 : f x10 = .inr (2, fs12)) (h14 : x10 < n) (h16 : fs12[4]? = some (.ref x15)) (h18 : f l1 = .inr (3, fs17)) (h19 : l1 < n) (h20 : mi_W d 49 0 (mi_en 5 [.ref l1]) [] (n, sl, f) (mi_Kc d 51 173 [some (.ref l1), some (.int l2), some (.int l3), some (.int l4), some (.int l5), some (.int l6)] [.int l6, .ref x15] Q)) : mi_W (d + 1) 51 163 [some (.ref l1), some (.int l2), some (.int l3), some (.int l4), some (.int l5), some (.int l6)] [] (n, sl, f) Q := by
  refine w_aload_n cd_51_163 rfl ?_
  refine w_getfield cd_51_164 (show mt_f 3 19 = some (3, 1) by decide +kernel) h8 h9 h11 ?_
  refine w_getfield cd_51_167 (show mt_f 3 128 = some (2, 4) by decide +kernel) h13 h14 h16 ?_
  refine w_iload cd_51_170 rfl ?_
  refine w_aload_n cd_51_172 rfl ?_
  exact w_invokevirtual cd_51_173 (show mt_m 3 157 = some (49, 0) by decide +kernel) (rest := [.int l6, .ref x15]) rfl (as := [.ref l1]) rfl h18 (Or.inl h19) ⟨Nat.le_of_ble_eq_true rfl, Nat.le_of_ble_eq_true rfl, Nat.le_of_ble_eq_true rfl⟩ h20
theorem b_51_176 {d : Nat} {Q : (Option Value ⊕ Nat) → mi_H → Prop} (n sl : Nat) (f : Nat → mi_C) {l1 : Nat} {l2 : Int32} {l3 : Int32} {l4 : Int32} {l5 : Int32} {l6 : Int32} {s7 : Int32} {s8 : Int32} {s9 : Nat} (m10 i10 : Nat) (g10 : Nat → Int32) {fs14 : List Value} (h11 : f s9 = .inl (0, m10, .inl g10)) (h12 : s9 < n) (h13 : mi_ix s8 m10 i10) (h15 : (va_up f s9 (.inl (0, m10, .inl (upd g10 i10 s7)))) l1 = .inr (3, fs14)) (h16 : l1 < n) (h17 : mi_W d 52 0 (mi_en 5 [.ref l1, .int l6]) [] (n, sl, (va_up f s9 (.inl (0, m10, .inl (upd g10 i10 s7))))) (mi_Kc d 51 180 [some (.ref l1), some (.int l2), some (.int l3), some (.int l4), some (.int l5), some (.int l6)] [] Q)) : mi_W (d + 1) 51 176 [some (.ref l1), some (.int l2), some (.int l3), some (.int l4), some (.int l5), some (.int l6)] [.int s7, .int s8, .ref s9] (n, sl, f) Q := by
  refine w_iastore cd_51_176 h11 h12 h13 ?_
  refine w_aload_n cd_51_177 rfl ?_
  refine w_iload cd_51_178 rfl ?_
  exact w_invokevirtual cd_51_180 (show mt_m 3 160 = some (52, 0) by decide +kernel) (rest := []) rfl (as := [.ref l1, .int l6]) rfl h15 (Or.inl h16) ⟨Nat.le_of_ble_eq_true rfl, Nat.le_of_ble_eq_true rfl, Nat.le_of_ble_eq_true rfl⟩ h17
theorem b_51_183 {d : Nat} {Q : (Option Value ⊕ Nat) → mi_H → Prop} (n sl : Nat) (f : Nat → mi_C) {l1 : Nat} {l2 : Int32} {l3 : Int32} {l4 : Int32} {l5 : Int32} {l6 : Int32} (h7 : mi_W d 51 203 [some (.ref l1), some (.int l2), some (.int l3), some (.int l4), some (.int l5), some (.int l6)] [] (n, sl, f) Q) : mi_W d 51 183 [some (.ref l1), some (.int l2), some (.int l3), some (.int l4), some (.int l5), some (.int l6)] [] (n, sl, f) Q := by
  exact w_goto cd_51_183 (by decide) h7
theorem b_51_186 {d : Nat} {Q : (Option Value ⊕ Nat) → mi_H → Prop} (n sl : Nat) (f : Nat → mi_C) {l1 : Nat} {l2 : Int32} {l3 : Int32} {l4 : Int32} {l5 : Int32} {l6 : Int32} {fs7 : List Value} {x10 : Nat} {fs12 : List Value} {x15 : Nat} {fs17 : List Value} (h8 : f l1 = .inr (3, fs7)) (h9 : l1 < n) (h11 : fs7[1]? = some (.ref x10)) (h13 : f x10 = .inr (2, fs12)) (h14 : x10 < n) (h16 : fs12[1]? = some (.ref x15)) (h18 : f l1 = .inr (3, fs17)) (h19 : l1 < n) (h20 : mi_W d 50 0 (mi_en 5 [.ref l1, .int (l4 + 1)]) [] (n, sl, f) (mi_Kc d 51 199 [some (.ref l1), some (.int l2), some (.int l3), some (.int l4), some (.int l5), some (.int l6)] [.int l6, .ref x15] Q)) : mi_W (d + 1) 51 186 [some (.ref l1), some (.int l2), some (.int l3), some (.int l4), some (.int l5), some (.int l6)] [] (n, sl, f) Q := by
  refine w_aload_n cd_51_186 rfl ?_
  refine w_getfield cd_51_187 (show mt_f 3 19 = some (3, 1) by decide +kernel) h8 h9 h11 ?_
  refine w_getfield cd_51_190 (show mt_f 3 109 = some (2, 1) by decide +kernel) h13 h14 h16 ?_
  refine w_iload cd_51_193 rfl ?_
  refine w_aload_n cd_51_195 rfl ?_
  refine w_iload_n cd_51_196 rfl ?_
  refine w_iconst (v := 1) cd_51_197 (by decide) ?_
  refine w_iadd cd_51_198 ?_
  exact w_invokevirtual cd_51_199 (show mt_m 3 135 = some (50, 0) by decide +kernel) (rest := [.int l6, .ref x15]) rfl (as := [.ref l1, .int (l4 + 1)]) rfl h18 (Or.inl h19) ⟨Nat.le_of_ble_eq_true rfl, Nat.le_of_ble_eq_true rfl, Nat.le_of_ble_eq_true rfl⟩ h20
theorem b_51_202 {d : Nat} {Q : (Option Value ⊕ Nat) → mi_H → Prop} (n sl : Nat) (f : Nat → mi_C) {l1 : Nat} {l2 : Int32} {l3 : Int32} {l4 : Int32} {l5 : Int32} {l6 : Int32} {s7 : Int32} {s8 : Int32} {s9 : Nat} (m10 i10 : Nat) (g10 : Nat → Int32) (h11 : f s9 = .inl (0, m10, .inl g10)) (h12 : s9 < n) (h13 : mi_ix s8 m10 i10) (h14 : mi_W d 51 203 [some (.ref l1), some (.int l2), some (.int l3), some (.int l4), some (.int l5), some (.int l6)] [] (n, sl, (va_up f s9 (.inl (0, m10, .inl (upd g10 i10 s7))))) Q) : mi_W d 51 202 [some (.ref l1), some (.int l2), some (.int l3), some (.int l4), some (.int l5), some (.int l6)] [.int s7, .int s8, .ref s9] (n, sl, f) Q := by
  refine w_iastore cd_51_202 h11 h12 h13 ?_
  exact h14
theorem b_51_203 {d : Nat} {Q : (Option Value ⊕ Nat) → mi_H → Prop} (n sl : Nat) (f : Nat → mi_C) {l1 : Nat} {l2 : Int32} {l3 : Int32} {l4 : Int32} {l5 : Int32} {l6 : Int32} {fs7 : List Value} {x10 : Nat} {fs12 : List Value} {x15 : Nat} {fs17 : List Value} (h8 : f l1 = .inr (3, fs7)) (h9 : l1 < n) (h11 : fs7[1]? = some (.ref x10)) (h13 : f x10 = .inr (2, fs12)) (h14 : x10 < n) (h16 : fs12[2]? = some (.ref x15)) (h18 : f l1 = .inr (3, fs17)) (h19 : l1 < n) (h20 : mi_W d 37 0 (mi_en 6 [.ref l1, .int (l4 + 1)]) [] (n, sl, f) (mi_Kc d 51 216 [some (.ref l1), some (.int l2), some (.int l3), some (.int l4), some (.int l5), some (.int l6)] [.int l6, .ref x15] Q)) : mi_W (d + 1) 51 203 [some (.ref l1), some (.int l2), some (.int l3), some (.int l4), some (.int l5), some (.int l6)] [] (n, sl, f) Q := by
  refine w_aload_n cd_51_203 rfl ?_
  refine w_getfield cd_51_204 (show mt_f 3 19 = some (3, 1) by decide +kernel) h8 h9 h11 ?_
  refine w_getfield cd_51_207 (show mt_f 3 138 = some (2, 2) by decide +kernel) h13 h14 h16 ?_
  refine w_iload cd_51_210 rfl ?_
  refine w_aload_n cd_51_212 rfl ?_
  refine w_iload_n cd_51_213 rfl ?_
  refine w_iconst (v := 1) cd_51_214 (by decide) ?_
  refine w_iadd cd_51_215 ?_
  exact w_invokevirtual cd_51_216 (show mt_m 3 96 = some (37, 0) by decide +kernel) (rest := [.int l6, .ref x15]) rfl (as := [.ref l1, .int (l4 + 1)]) rfl h18 (Or.inl h19) ⟨Nat.le_of_ble_eq_true rfl, Nat.le_of_ble_eq_true rfl, Nat.le_of_ble_eq_true rfl⟩ h20
theorem b_51_219 {d : Nat} {Q : (Option Value ⊕ Nat) → mi_H → Prop} (n sl : Nat) (f : Nat → mi_C) {l1 : Nat} {l2 : Int32} {l3 : Int32} {l4 : Int32} {l5 : Int32} {l6 : Int32} {s7 : Int32} {s8 : Int32} {s9 : Nat} (m10 i10 : Nat) (g10 : Nat → Int32) (h11 : f s9 = .inl (0, m10, .inl g10)) (h12 : s9 < n) (h13 : mi_ix s8 m10 i10) (h14 : Q (.inl (some (.int l6))) (n, sl, (va_up f s9 (.inl (0, m10, .inl (upd g10 i10 s7)))))) : mi_W d 51 219 [some (.ref l1), some (.int l2), some (.int l3), some (.int l4), some (.int l5), some (.int l6)] [.int s7, .int s8, .ref s9] (n, sl, f) Q := by
  refine w_iastore cd_51_219 h11 h12 h13 ?_
  refine w_iload cd_51_220 rfl ?_
  exact w_ireturn_i cd_51_222 (by decide +kernel) h14
/-! MarloweHost$Reader.readBounds(I)V -/
set_option maxRecDepth 100000 in
theorem mq_52 : mt_q 52 = my_52 := rfl
set_option maxRecDepth 100000 in
theorem ci_52 : mt_inc 0 my_52.cd = true := by decide +kernel
theorem cd_52_0 : mt_cd 52 0 = some (.aload_n 0) := mt_cd_of (q := (0, .aload_n 0, 1)) mq_52 ci_52 (List.mem_of_getElem? (i := 0) rfl)
theorem cd_52_1 : mt_cd 52 1 = some (.bipush 26) := mt_cd_of (q := (1, .bipush 26, 2)) mq_52 ci_52 (List.mem_of_getElem? (i := 1) rfl)
theorem cd_52_3 : mt_cd 52 3 = some (.invokevirtual 99) := mt_cd_of (q := (3, .invokevirtual 99, 3)) mq_52 ci_52 (List.mem_of_getElem? (i := 2) rfl)
theorem cd_52_6 : mt_cd 52 6 = some (.aload_n 0) := mt_cd_of (q := (6, .aload_n 0, 1)) mq_52 ci_52 (List.mem_of_getElem? (i := 3) rfl)
theorem cd_52_7 : mt_cd 52 7 = some (.getfield 19) := mt_cd_of (q := (7, .getfield 19, 3)) mq_52 ci_52 (List.mem_of_getElem? (i := 4) rfl)
theorem cd_52_10 : mt_cd 52 10 = some (.getfield 151) := mt_cd_of (q := (10, .getfield 151, 3)) mq_52 ci_52 (List.mem_of_getElem? (i := 5) rfl)
theorem cd_52_13 : mt_cd 52 13 = some (.iload_n 1) := mt_cd_of (q := (13, .iload_n 1, 1)) mq_52 ci_52 (List.mem_of_getElem? (i := 6) rfl)
theorem cd_52_14 : mt_cd 52 14 = some (.aload_n 0) := mt_cd_of (q := (14, .aload_n 0, 1)) mq_52 ci_52 (List.mem_of_getElem? (i := 7) rfl)
theorem cd_52_15 : mt_cd 52 15 = some (.getfield 19) := mt_cd_of (q := (15, .getfield 19, 3)) mq_52 ci_52 (List.mem_of_getElem? (i := 8) rfl)
theorem cd_52_18 : mt_cd 52 18 = some (.getfield 163) := mt_cd_of (q := (18, .getfield 163, 3)) mq_52 ci_52 (List.mem_of_getElem? (i := 9) rfl)
theorem cd_52_21 : mt_cd 52 21 = some (.iastore) := mt_cd_of (q := (21, .iastore, 1)) mq_52 ci_52 (List.mem_of_getElem? (i := 10) rfl)
theorem cd_52_22 : mt_cd 52 22 = some (.iconst 0) := mt_cd_of (q := (22, .iconst 0, 1)) mq_52 ci_52 (List.mem_of_getElem? (i := 11) rfl)
theorem cd_52_23 : mt_cd 52 23 = some (.istore_n 2) := mt_cd_of (q := (23, .istore_n 2, 1)) mq_52 ci_52 (List.mem_of_getElem? (i := 12) rfl)
theorem cd_52_24 : mt_cd 52 24 = some (.iload_n 2) := mt_cd_of (q := (24, .iload_n 2, 1)) mq_52 ci_52 (List.mem_of_getElem? (i := 13) rfl)
theorem cd_52_25 : mt_cd 52 25 = some (.sipush 4096) := mt_cd_of (q := (25, .sipush 4096, 3)) mq_52 ci_52 (List.mem_of_getElem? (i := 14) rfl)
theorem cd_52_28 : mt_cd 52 28 = some (.if_icmp .ge 89) := mt_cd_of (q := (28, .if_icmp .ge 89, 3)) mq_52 ci_52 (List.mem_of_getElem? (i := 15) rfl)
theorem cd_52_31 : mt_cd 52 31 = some (.iload_n 2) := mt_cd_of (q := (31, .iload_n 2, 1)) mq_52 ci_52 (List.mem_of_getElem? (i := 16) rfl)
theorem cd_52_32 : mt_cd 52 32 = some (.ifCond .eq 15) := mt_cd_of (q := (32, .ifCond .eq 15, 3)) mq_52 ci_52 (List.mem_of_getElem? (i := 17) rfl)
theorem cd_52_35 : mt_cd 52 35 = some (.aload_n 0) := mt_cd_of (q := (35, .aload_n 0, 1)) mq_52 ci_52 (List.mem_of_getElem? (i := 18) rfl)
theorem cd_52_36 : mt_cd 52 36 = some (.getfield 15) := mt_cd_of (q := (36, .getfield 15, 3)) mq_52 ci_52 (List.mem_of_getElem? (i := 19) rfl)
theorem cd_52_39 : mt_cd 52 39 = some (.getfield 67) := mt_cd_of (q := (39, .getfield 67, 3)) mq_52 ci_52 (List.mem_of_getElem? (i := 20) rfl)
theorem cd_52_42 : mt_cd 52 42 = some (.bipush 27) := mt_cd_of (q := (42, .bipush 27, 2)) mq_52 ci_52 (List.mem_of_getElem? (i := 21) rfl)
theorem cd_52_44 : mt_cd 52 44 = some (.if_icmp .eq 73) := mt_cd_of (q := (44, .if_icmp .eq 73, 3)) mq_52 ci_52 (List.mem_of_getElem? (i := 22) rfl)
theorem cd_52_47 : mt_cd 52 47 = some (.aload_n 0) := mt_cd_of (q := (47, .aload_n 0, 1)) mq_52 ci_52 (List.mem_of_getElem? (i := 23) rfl)
theorem cd_52_48 : mt_cd 52 48 = some (.invokevirtual 124) := mt_cd_of (q := (48, .invokevirtual 124, 3)) mq_52 ci_52 (List.mem_of_getElem? (i := 24) rfl)
theorem cd_52_51 : mt_cd 52 51 = some (.lstore_n 3) := mt_cd_of (q := (51, .lstore_n 3, 1)) mq_52 ci_52 (List.mem_of_getElem? (i := 25) rfl)
theorem cd_52_52 : mt_cd 52 52 = some (.aload_n 0) := mt_cd_of (q := (52, .aload_n 0, 1)) mq_52 ci_52 (List.mem_of_getElem? (i := 26) rfl)
theorem cd_52_53 : mt_cd 52 53 = some (.aload_n 0) := mt_cd_of (q := (53, .aload_n 0, 1)) mq_52 ci_52 (List.mem_of_getElem? (i := 27) rfl)
theorem cd_52_54 : mt_cd 52 54 = some (.getfield 15) := mt_cd_of (q := (54, .getfield 15, 3)) mq_52 ci_52 (List.mem_of_getElem? (i := 28) rfl)
theorem cd_52_57 : mt_cd 52 57 = some (.getfield 67) := mt_cd_of (q := (57, .getfield 67, 3)) mq_52 ci_52 (List.mem_of_getElem? (i := 29) rfl)
theorem cd_52_60 : mt_cd 52 60 = some (.bipush 37) := mt_cd_of (q := (60, .bipush 37, 2)) mq_52 ci_52 (List.mem_of_getElem? (i := 30) rfl)
theorem cd_52_62 : mt_cd 52 62 = some (.if_icmp .ne 19) := mt_cd_of (q := (62, .if_icmp .ne 19, 3)) mq_52 ci_52 (List.mem_of_getElem? (i := 31) rfl)
theorem cd_52_65 : mt_cd 52 65 = some (.aload_n 0) := mt_cd_of (q := (65, .aload_n 0, 1)) mq_52 ci_52 (List.mem_of_getElem? (i := 32) rfl)
theorem cd_52_66 : mt_cd 52 66 = some (.getfield 15) := mt_cd_of (q := (66, .getfield 15, 3)) mq_52 ci_52 (List.mem_of_getElem? (i := 33) rfl)
theorem cd_52_69 : mt_cd 52 69 = some (.getfield 88) := mt_cd_of (q := (69, .getfield 88, 3)) mq_52 ci_52 (List.mem_of_getElem? (i := 34) rfl)
theorem cd_52_72 : mt_cd 52 72 = some (.lload_n 3) := mt_cd_of (q := (72, .lload_n 3, 1)) mq_52 ci_52 (List.mem_of_getElem? (i := 35) rfl)
theorem cd_52_73 : mt_cd 52 73 = some (.lcmp) := mt_cd_of (q := (73, .lcmp, 1)) mq_52 ci_52 (List.mem_of_getElem? (i := 36) rfl)
theorem cd_52_74 : mt_cd 52 74 = some (.ifCond .lt 7) := mt_cd_of (q := (74, .ifCond .lt 7, 3)) mq_52 ci_52 (List.mem_of_getElem? (i := 37) rfl)
theorem cd_52_77 : mt_cd 52 77 = some (.iconst 1) := mt_cd_of (q := (77, .iconst 1, 1)) mq_52 ci_52 (List.mem_of_getElem? (i := 38) rfl)
theorem cd_52_78 : mt_cd 52 78 = some (.goto 4) := mt_cd_of (q := (78, .goto 4, 3)) mq_52 ci_52 (List.mem_of_getElem? (i := 39) rfl)
theorem cd_52_81 : mt_cd 52 81 = some (.iconst 0) := mt_cd_of (q := (81, .iconst 0, 1)) mq_52 ci_52 (List.mem_of_getElem? (i := 40) rfl)
theorem cd_52_82 : mt_cd 52 82 = some (.invokevirtual 70) := mt_cd_of (q := (82, .invokevirtual 70, 3)) mq_52 ci_52 (List.mem_of_getElem? (i := 41) rfl)
theorem cd_52_85 : mt_cd 52 85 = some (.aload_n 0) := mt_cd_of (q := (85, .aload_n 0, 1)) mq_52 ci_52 (List.mem_of_getElem? (i := 42) rfl)
theorem cd_52_86 : mt_cd 52 86 = some (.aload_n 0) := mt_cd_of (q := (86, .aload_n 0, 1)) mq_52 ci_52 (List.mem_of_getElem? (i := 43) rfl)
theorem cd_52_87 : mt_cd 52 87 = some (.getfield 19) := mt_cd_of (q := (87, .getfield 19, 3)) mq_52 ci_52 (List.mem_of_getElem? (i := 44) rfl)
theorem cd_52_90 : mt_cd 52 90 = some (.lload_n 3) := mt_cd_of (q := (90, .lload_n 3, 1)) mq_52 ci_52 (List.mem_of_getElem? (i := 45) rfl)
theorem cd_52_91 : mt_cd 52 91 = some (.aload_n 0) := mt_cd_of (q := (91, .aload_n 0, 1)) mq_52 ci_52 (List.mem_of_getElem? (i := 46) rfl)
theorem cd_52_92 : mt_cd 52 92 = some (.getfield 15) := mt_cd_of (q := (92, .getfield 15, 3)) mq_52 ci_52 (List.mem_of_getElem? (i := 47) rfl)
theorem cd_52_95 : mt_cd 52 95 = some (.getfield 88) := mt_cd_of (q := (95, .getfield 88, 3)) mq_52 ci_52 (List.mem_of_getElem? (i := 48) rfl)
theorem cd_52_98 : mt_cd 52 98 = some (.invokevirtual 166) := mt_cd_of (q := (98, .invokevirtual 166, 3)) mq_52 ci_52 (List.mem_of_getElem? (i := 49) rfl)
theorem cd_52_101 : mt_cd 52 101 = some (.invokevirtual 70) := mt_cd_of (q := (101, .invokevirtual 70, 3)) mq_52 ci_52 (List.mem_of_getElem? (i := 50) rfl)
theorem cd_52_104 : mt_cd 52 104 = some (.aload_n 0) := mt_cd_of (q := (104, .aload_n 0, 1)) mq_52 ci_52 (List.mem_of_getElem? (i := 51) rfl)
theorem cd_52_105 : mt_cd 52 105 = some (.getfield 15) := mt_cd_of (q := (105, .getfield 15, 3)) mq_52 ci_52 (List.mem_of_getElem? (i := 52) rfl)
theorem cd_52_108 : mt_cd 52 108 = some (.invokevirtual 84) := mt_cd_of (q := (108, .invokevirtual 84, 3)) mq_52 ci_52 (List.mem_of_getElem? (i := 53) rfl)
theorem cd_52_111 : mt_cd 52 111 = some (.iinc 2 1) := mt_cd_of (q := (111, .iinc 2 1, 3)) mq_52 ci_52 (List.mem_of_getElem? (i := 54) rfl)
theorem cd_52_114 : mt_cd 52 114 = some (.goto (-90)) := mt_cd_of (q := (114, .goto (-90), 3)) mq_52 ci_52 (List.mem_of_getElem? (i := 55) rfl)
theorem cd_52_117 : mt_cd 52 117 = some (.aload_n 0) := mt_cd_of (q := (117, .aload_n 0, 1)) mq_52 ci_52 (List.mem_of_getElem? (i := 56) rfl)
theorem cd_52_118 : mt_cd 52 118 = some (.bipush 27) := mt_cd_of (q := (118, .bipush 27, 2)) mq_52 ci_52 (List.mem_of_getElem? (i := 57) rfl)
theorem cd_52_120 : mt_cd 52 120 = some (.invokevirtual 99) := mt_cd_of (q := (120, .invokevirtual 99, 3)) mq_52 ci_52 (List.mem_of_getElem? (i := 58) rfl)
theorem cd_52_123 : mt_cd 52 123 = some (.aload_n 0) := mt_cd_of (q := (123, .aload_n 0, 1)) mq_52 ci_52 (List.mem_of_getElem? (i := 59) rfl)
theorem cd_52_124 : mt_cd 52 124 = some (.getfield 19) := mt_cd_of (q := (124, .getfield 19, 3)) mq_52 ci_52 (List.mem_of_getElem? (i := 60) rfl)
theorem cd_52_127 : mt_cd 52 127 = some (.getfield 154) := mt_cd_of (q := (127, .getfield 154, 3)) mq_52 ci_52 (List.mem_of_getElem? (i := 61) rfl)
theorem cd_52_130 : mt_cd 52 130 = some (.iload_n 1) := mt_cd_of (q := (130, .iload_n 1, 1)) mq_52 ci_52 (List.mem_of_getElem? (i := 62) rfl)
theorem cd_52_131 : mt_cd 52 131 = some (.aload_n 0) := mt_cd_of (q := (131, .aload_n 0, 1)) mq_52 ci_52 (List.mem_of_getElem? (i := 63) rfl)
theorem cd_52_132 : mt_cd 52 132 = some (.getfield 19) := mt_cd_of (q := (132, .getfield 19, 3)) mq_52 ci_52 (List.mem_of_getElem? (i := 64) rfl)
theorem cd_52_135 : mt_cd 52 135 = some (.getfield 163) := mt_cd_of (q := (135, .getfield 163, 3)) mq_52 ci_52 (List.mem_of_getElem? (i := 65) rfl)
theorem cd_52_138 : mt_cd 52 138 = some (.iastore) := mt_cd_of (q := (138, .iastore, 1)) mq_52 ci_52 (List.mem_of_getElem? (i := 66) rfl)
theorem cd_52_139 : mt_cd 52 139 = some (.return_) := mt_cd_of (q := (139, .return_, 1)) mq_52 ci_52 (List.mem_of_getElem? (i := 67) rfl)
theorem b_52_0 {d : Nat} {Q : (Option Value ⊕ Nat) → mi_H → Prop} (n sl : Nat) (f : Nat → mi_C) {l1 : Nat} {l2 : Int32} {o3 : Option Value} {o4 : Option Value} {o5 : Option Value} {fs6 : List Value} (h7 : f l1 = .inr (3, fs6)) (h8 : l1 < n) (h9 : mi_W d 39 0 (mi_en 2 [.ref l1, .int 26]) [] (n, sl, f) (mi_Kc d 52 3 [some (.ref l1), some (.int l2), o3, o4, o5] [] Q)) : mi_W (d + 1) 52 0 [some (.ref l1), some (.int l2), o3, o4, o5] [] (n, sl, f) Q := by
  refine w_aload_n cd_52_0 rfl ?_
  refine w_bipush (v := 26) cd_52_1 (by decide) ?_
  exact w_invokevirtual cd_52_3 (show mt_m 3 99 = some (39, 0) by decide +kernel) (rest := []) rfl (as := [.ref l1, .int 26]) rfl h7 (Or.inl h8) ⟨Nat.le_of_ble_eq_true rfl, Nat.le_of_ble_eq_true rfl, Nat.le_of_ble_eq_true rfl⟩ h9
theorem b_52_6 {d : Nat} {Q : (Option Value ⊕ Nat) → mi_H → Prop} (n sl : Nat) (f : Nat → mi_C) {l1 : Nat} {l2 : Int32} {o3 : Option Value} {o4 : Option Value} {o5 : Option Value} {fs6 : List Value} {x9 : Nat} {fs11 : List Value} {x14 : Nat} {fs16 : List Value} {x19 : Nat} {fs21 : List Value} {x24 : Int32} (m26 i26 : Nat) (g26 : Nat → Int32) (h7 : f l1 = .inr (3, fs6)) (h8 : l1 < n) (h10 : fs6[1]? = some (.ref x9)) (h12 : f x9 = .inr (2, fs11)) (h13 : x9 < n) (h15 : fs11[5]? = some (.ref x14)) (h17 : f l1 = .inr (3, fs16)) (h18 : l1 < n) (h20 : fs16[1]? = some (.ref x19)) (h22 : f x19 = .inr (2, fs21)) (h23 : x19 < n) (h25 : fs21[12]? = some (.int x24)) (h27 : f x14 = .inl (0, m26, .inl g26)) (h28 : x14 < n) (h29 : mi_ix l2 m26 i26) (h30 : mi_W d 52 24 [some (.ref l1), some (.int l2), some (.int 0), o4, o5] [] (n, sl, (va_up f x14 (.inl (0, m26, .inl (upd g26 i26 x24))))) Q) : mi_W d 52 6 [some (.ref l1), some (.int l2), o3, o4, o5] [] (n, sl, f) Q := by
  refine w_aload_n cd_52_6 rfl ?_
  refine w_getfield cd_52_7 (show mt_f 3 19 = some (3, 1) by decide +kernel) h7 h8 h10 ?_
  refine w_getfield cd_52_10 (show mt_f 3 151 = some (2, 5) by decide +kernel) h12 h13 h15 ?_
  refine w_iload_n cd_52_13 rfl ?_
  refine w_aload_n cd_52_14 rfl ?_
  refine w_getfield cd_52_15 (show mt_f 3 19 = some (3, 1) by decide +kernel) h17 h18 h20 ?_
  refine w_getfield cd_52_18 (show mt_f 3 163 = some (2, 12) by decide +kernel) h22 h23 h25 ?_
  refine w_iastore cd_52_21 h27 h28 h29 ?_
  refine w_iconst (v := 0) cd_52_22 (by decide) ?_
  refine w_istore_n (ls' := [some (.ref l1), some (.int l2), some (.int 0), o4, o5]) cd_52_23 (Nat.le_of_ble_eq_true rfl) rfl ?_
  exact h30
theorem b_52_24 {d : Nat} {Q : (Option Value ⊕ Nat) → mi_H → Prop} (n sl : Nat) (f : Nat → mi_C) {l1 : Nat} {l2 : Int32} {l3 : Int32} {o4 : Option Value} {o5 : Option Value} (h6 : 4096 ≤ l3 → mi_W d 52 117 [some (.ref l1), some (.int l2), some (.int l3), o4, o5] [] (n, sl, f) Q) (h7 : ¬ (4096 ≤ l3) → mi_W d 52 31 [some (.ref l1), some (.int l2), some (.int l3), o4, o5] [] (n, sl, f) Q) : mi_W d 52 24 [some (.ref l1), some (.int l2), some (.int l3), o4, o5] [] (n, sl, f) Q := by
  refine w_iload_n cd_52_24 rfl ?_
  refine w_sipush (v := 4096) cd_52_25 (by decide) ?_
  exact w_if_icmpge cd_52_28 (by decide) h6 h7
theorem b_52_31 {d : Nat} {Q : (Option Value ⊕ Nat) → mi_H → Prop} (n sl : Nat) (f : Nat → mi_C) {l1 : Nat} {l2 : Int32} {l3 : Int32} {o4 : Option Value} {o5 : Option Value} (h6 : l3 = (0 : Int32) → mi_W d 52 47 [some (.ref l1), some (.int l2), some (.int l3), o4, o5] [] (n, sl, f) Q) (h7 : ¬ (l3 = (0 : Int32)) → mi_W d 52 35 [some (.ref l1), some (.int l2), some (.int l3), o4, o5] [] (n, sl, f) Q) : mi_W d 52 31 [some (.ref l1), some (.int l2), some (.int l3), o4, o5] [] (n, sl, f) Q := by
  refine w_iload_n cd_52_31 rfl ?_
  exact w_ifeq cd_52_32 (by decide) h6 h7
theorem b_52_35 {d : Nat} {Q : (Option Value ⊕ Nat) → mi_H → Prop} (n sl : Nat) (f : Nat → mi_C) {l1 : Nat} {l2 : Int32} {l3 : Int32} {o4 : Option Value} {o5 : Option Value} {fs6 : List Value} {x9 : Nat} {fs11 : List Value} {x14 : Int32} (h7 : f l1 = .inr (3, fs6)) (h8 : l1 < n) (h10 : fs6[0]? = some (.ref x9)) (h12 : f x9 = .inr (1, fs11)) (h13 : x9 < n) (h15 : fs11[2]? = some (.int x14)) (h16 : x14 = 27 → mi_W d 52 117 [some (.ref l1), some (.int l2), some (.int l3), o4, o5] [] (n, sl, f) Q) (h17 : ¬ (x14 = 27) → mi_W d 52 47 [some (.ref l1), some (.int l2), some (.int l3), o4, o5] [] (n, sl, f) Q) : mi_W d 52 35 [some (.ref l1), some (.int l2), some (.int l3), o4, o5] [] (n, sl, f) Q := by
  refine w_aload_n cd_52_35 rfl ?_
  refine w_getfield cd_52_36 (show mt_f 3 15 = some (3, 0) by decide +kernel) h7 h8 h10 ?_
  refine w_getfield cd_52_39 (show mt_f 3 67 = some (1, 2) by decide +kernel) h12 h13 h15 ?_
  refine w_bipush (v := 27) cd_52_42 (by decide) ?_
  exact w_if_icmpeq cd_52_44 (by decide) h16 h17
theorem b_52_47 {d : Nat} {Q : (Option Value ⊕ Nat) → mi_H → Prop} (n sl : Nat) (f : Nat → mi_C) {l1 : Nat} {l2 : Int32} {l3 : Int32} {o4 : Option Value} {o5 : Option Value} {fs6 : List Value} (h7 : f l1 = .inr (3, fs6)) (h8 : l1 < n) (h9 : mi_W d 53 0 (mi_en 3 [.ref l1]) [] (n, sl, f) (mi_Kc d 52 48 [some (.ref l1), some (.int l2), some (.int l3), o4, o5] [] Q)) : mi_W (d + 1) 52 47 [some (.ref l1), some (.int l2), some (.int l3), o4, o5] [] (n, sl, f) Q := by
  refine w_aload_n cd_52_47 rfl ?_
  exact w_invokevirtual cd_52_48 (show mt_m 3 124 = some (53, 0) by decide +kernel) (rest := []) rfl (as := [.ref l1]) rfl h7 (Or.inl h8) ⟨Nat.le_of_ble_eq_true rfl, Nat.le_of_ble_eq_true rfl, Nat.le_of_ble_eq_true rfl⟩ h9
theorem b_52_51 {d : Nat} {Q : (Option Value ⊕ Nat) → mi_H → Prop} (n sl : Nat) (f : Nat → mi_C) {l1 : Nat} {l2 : Int32} {l3 : Int32} {o4 : Option Value} {o5 : Option Value} {s6 : Int64} {fs7 : List Value} {x10 : Nat} {fs12 : List Value} {x15 : Int32} (h8 : f l1 = .inr (3, fs7)) (h9 : l1 < n) (h11 : fs7[0]? = some (.ref x10)) (h13 : f x10 = .inr (1, fs12)) (h14 : x10 < n) (h16 : fs12[2]? = some (.int x15)) (h17 : ¬ x15 = 37 → mi_W d 52 81 [some (.ref l1), some (.int l2), some (.int l3), some (.long s6), none] [.ref l1] (n, sl, f) Q) (h18 : ¬ (¬ x15 = 37) → mi_W d 52 65 [some (.ref l1), some (.int l2), some (.int l3), some (.long s6), none] [.ref l1] (n, sl, f) Q) : mi_W d 52 51 [some (.ref l1), some (.int l2), some (.int l3), o4, o5] [.long s6] (n, sl, f) Q := by
  refine w_lstore_n (ls' := [some (.ref l1), some (.int l2), some (.int l3), some (.long s6), none]) cd_52_51 (Nat.le_of_ble_eq_true rfl) rfl ?_
  refine w_aload_n cd_52_52 rfl ?_
  refine w_aload_n cd_52_53 rfl ?_
  refine w_getfield cd_52_54 (show mt_f 3 15 = some (3, 0) by decide +kernel) h8 h9 h11 ?_
  refine w_getfield cd_52_57 (show mt_f 3 67 = some (1, 2) by decide +kernel) h13 h14 h16 ?_
  refine w_bipush (v := 37) cd_52_60 (by decide) ?_
  exact w_if_icmpne cd_52_62 (by decide) h17 h18
theorem b_52_65 {d : Nat} {Q : (Option Value ⊕ Nat) → mi_H → Prop} (n sl : Nat) (f : Nat → mi_C) {l1 : Nat} {l2 : Int32} {l3 : Int32} {l4 : Int64} {s5 : Nat} {fs6 : List Value} {x9 : Nat} {fs11 : List Value} {x14 : Int64} (h7 : f l1 = .inr (3, fs6)) (h8 : l1 < n) (h10 : fs6[0]? = some (.ref x9)) (h12 : f x9 = .inr (1, fs11)) (h13 : x9 < n) (h15 : fs11[5]? = some (.long x14)) (h16 : (lg_cmp x14 l4) < (0 : Int32) → mi_W d 52 81 [some (.ref l1), some (.int l2), some (.int l3), some (.long l4), none] [.ref s5] (n, sl, f) Q) (h17 : ¬ ((lg_cmp x14 l4) < (0 : Int32)) → mi_W d 52 77 [some (.ref l1), some (.int l2), some (.int l3), some (.long l4), none] [.ref s5] (n, sl, f) Q) : mi_W d 52 65 [some (.ref l1), some (.int l2), some (.int l3), some (.long l4), none] [.ref s5] (n, sl, f) Q := by
  refine w_aload_n cd_52_65 rfl ?_
  refine w_getfield cd_52_66 (show mt_f 3 15 = some (3, 0) by decide +kernel) h7 h8 h10 ?_
  refine w_getfield cd_52_69 (show mt_f 3 88 = some (1, 5) by decide +kernel) h12 h13 h15 ?_
  refine w_lload_n cd_52_72 rfl ?_
  refine w_lcmp cd_52_73 ?_
  exact w_iflt cd_52_74 (by decide) h16 h17
theorem b_52_77 {d : Nat} {Q : (Option Value ⊕ Nat) → mi_H → Prop} (n sl : Nat) (f : Nat → mi_C) {l1 : Nat} {l2 : Int32} {l3 : Int32} {l4 : Int64} {s5 : Nat} (h6 : mi_W d 52 82 [some (.ref l1), some (.int l2), some (.int l3), some (.long l4), none] [.int 1, .ref s5] (n, sl, f) Q) : mi_W d 52 77 [some (.ref l1), some (.int l2), some (.int l3), some (.long l4), none] [.ref s5] (n, sl, f) Q := by
  refine w_iconst (v := 1) cd_52_77 (by decide) ?_
  exact w_goto cd_52_78 (by decide) h6
theorem b_52_81 {d : Nat} {Q : (Option Value ⊕ Nat) → mi_H → Prop} (n sl : Nat) (f : Nat → mi_C) {l1 : Nat} {l2 : Int32} {l3 : Int32} {l4 : Int64} {s5 : Nat} (h6 : mi_W d 52 82 [some (.ref l1), some (.int l2), some (.int l3), some (.long l4), none] [.int 0, .ref s5] (n, sl, f) Q) : mi_W d 52 81 [some (.ref l1), some (.int l2), some (.int l3), some (.long l4), none] [.ref s5] (n, sl, f) Q := by
  refine w_iconst (v := 0) cd_52_81 (by decide) ?_
  exact h6
theorem b_52_82 {d : Nat} {Q : (Option Value ⊕ Nat) → mi_H → Prop} (n sl : Nat) (f : Nat → mi_C) {l1 : Nat} {l2 : Int32} {l3 : Int32} {l4 : Int64} {s5 : Int32} {s6 : Nat} {fs7 : List Value} (h8 : f s6 = .inr (3, fs7)) (h9 : s6 < n) (h10 : mi_W d 38 0 (mi_en 2 [.ref s6, .int s5]) [] (n, sl, f) (mi_Kc d 52 82 [some (.ref l1), some (.int l2), some (.int l3), some (.long l4), none] [] Q)) : mi_W (d + 1) 52 82 [some (.ref l1), some (.int l2), some (.int l3), some (.long l4), none] [.int s5, .ref s6] (n, sl, f) Q := by
  exact w_invokevirtual cd_52_82 (show mt_m 3 70 = some (38, 0) by decide +kernel) (rest := []) rfl (as := [.ref s6, .int s5]) rfl h8 (Or.inl h9) ⟨Nat.le_of_ble_eq_true rfl, Nat.le_of_ble_eq_true rfl, Nat.le_of_ble_eq_true rfl⟩ h10
theorem b_52_85 {d : Nat} {Q : (Option Value ⊕ Nat) → mi_H → Prop} (n sl : Nat) (f : Nat → mi_C) {l1 : Nat} {l2 : Int32} {l3 : Int32} {l4 : Int64} {fs5 : List Value} {x8 : Nat} {fs10 : List Value} {x13 : Nat} {fs15 : List Value} {x18 : Int64} {fs20 : List Value} (h6 : f l1 = .inr (3, fs5)) (h7 : l1 < n) (h9 : fs5[1]? = some (.ref x8)) (h11 : f l1 = .inr (3, fs10)) (h12 : l1 < n) (h14 : fs10[0]? = some (.ref x13)) (h16 : f x13 = .inr (1, fs15)) (h17 : x13 < n) (h19 : fs15[5]? = some (.long x18)) (h21 : f x8 = .inr (2, fs20)) (h22 : x8 < n) (h23 : mi_W d 54 0 (mi_en 5 [.ref x8, .long l4, .long x18]) [] (n, sl, f) (mi_Kc d 52 98 [some (.ref l1), some (.int l2), some (.int l3), some (.long l4), none] [.ref l1] Q)) : mi_W (d + 1) 52 85 [some (.ref l1), some (.int l2), some (.int l3), some (.long l4), none] [] (n, sl, f) Q := by
  refine w_aload_n cd_52_85 rfl ?_
  refine w_aload_n cd_52_86 rfl ?_
  refine w_getfield cd_52_87 (show mt_f 3 19 = some (3, 1) by decide +kernel) h6 h7 h9 ?_
  refine w_lload_n cd_52_90 rfl ?_
  refine w_aload_n cd_52_91 rfl ?_
  refine w_getfield cd_52_92 (show mt_f 3 15 = some (3, 0) by decide +kernel) h11 h12 h14 ?_
  refine w_getfield cd_52_95 (show mt_f 3 88 = some (1, 5) by decide +kernel) h16 h17 h19 ?_
  exact w_invokevirtual cd_52_98 (show mt_m 3 166 = some (54, 0) by decide +kernel) (rest := [.ref l1]) rfl (as := [.ref x8, .long l4, .long x18]) rfl h21 (Or.inl h22) ⟨Nat.le_of_ble_eq_true rfl, Nat.le_of_ble_eq_true rfl, Nat.le_of_ble_eq_true rfl⟩ h23
theorem b_52_101 {d : Nat} {Q : (Option Value ⊕ Nat) → mi_H → Prop} (n sl : Nat) (f : Nat → mi_C) {l1 : Nat} {l2 : Int32} {l3 : Int32} {l4 : Int64} {s5 : Int32} {s6 : Nat} {fs7 : List Value} (h8 : f s6 = .inr (3, fs7)) (h9 : s6 < n) (h10 : mi_W d 38 0 (mi_en 2 [.ref s6, .int s5]) [] (n, sl, f) (mi_Kc d 52 101 [some (.ref l1), some (.int l2), some (.int l3), some (.long l4), none] [] Q)) : mi_W (d + 1) 52 101 [some (.ref l1), some (.int l2), some (.int l3), some (.long l4), none] [.int s5, .ref s6] (n, sl, f) Q := by
  exact w_invokevirtual cd_52_101 (show mt_m 3 70 = some (38, 0) by decide +kernel) (rest := []) rfl (as := [.ref s6, .int s5]) rfl h8 (Or.inl h9) ⟨Nat.le_of_ble_eq_true rfl, Nat.le_of_ble_eq_true rfl, Nat.le_of_ble_eq_true rfl⟩ h10
theorem b_52_104 {d : Nat} {Q : (Option Value ⊕ Nat) → mi_H → Prop} (n sl : Nat) (f : Nat → mi_C) {l1 : Nat} {l2 : Int32} {l3 : Int32} {l4 : Int64} {fs5 : List Value} {x8 : Nat} {fs10 : List Value} (h6 : f l1 = .inr (3, fs5)) (h7 : l1 < n) (h9 : fs5[0]? = some (.ref x8)) (h11 : f x8 = .inr (1, fs10)) (h12 : x8 < n) (h13 : mi_W d 24 0 (mi_en 2 [.ref x8]) [] (n, sl, f) (mi_Kc d 52 108 [some (.ref l1), some (.int l2), some (.int l3), some (.long l4), none] [] Q)) : mi_W (d + 1) 52 104 [some (.ref l1), some (.int l2), some (.int l3), some (.long l4), none] [] (n, sl, f) Q := by
  refine w_aload_n cd_52_104 rfl ?_
  refine w_getfield cd_52_105 (show mt_f 3 15 = some (3, 0) by decide +kernel) h6 h7 h9 ?_
  exact w_invokevirtual cd_52_108 (show mt_m 3 84 = some (24, 0) by decide +kernel) (rest := []) rfl (as := [.ref x8]) rfl h11 (Or.inl h12) ⟨Nat.le_of_ble_eq_true rfl, Nat.le_of_ble_eq_true rfl, Nat.le_of_ble_eq_true rfl⟩ h13
theorem b_52_111 {d : Nat} {Q : (Option Value ⊕ Nat) → mi_H → Prop} (n sl : Nat) (f : Nat → mi_C) {l1 : Nat} {l2 : Int32} {l3 : Int32} {l4 : Int64} (h5 : mi_W d 52 24 [some (.ref l1), some (.int l2), some (.int (l3 + 1)), some (.long l4), none] [] (n, sl, f) Q) : mi_W d 52 111 [some (.ref l1), some (.int l2), some (.int l3), some (.long l4), none] [] (n, sl, f) Q := by
  refine w_iinc (v := 1) (ls' := [some (.ref l1), some (.int l2), some (.int (l3 + 1)), some (.long l4), none]) cd_52_111 rfl (by decide) rfl ?_
  exact w_goto cd_52_114 (by decide) h5
theorem b_52_117 {d : Nat} {Q : (Option Value ⊕ Nat) → mi_H → Prop} (n sl : Nat) (f : Nat → mi_C) {l1 : Nat} {l2 : Int32} {l3 : Int32} {o4 : Option Value} {o5 : Option Value} {fs6 : List Value} (h7 : f l1 = .inr (3, fs6)) (h8 : l1 < n) (h9 : mi_W d 39 0 (mi_en 2 [.ref l1, .int 27]) [] (n, sl, f) (mi_Kc d 52 120 [some (.ref l1), some (.int l2), some (.int l3), o4, o5] [] Q)) : mi_W (d + 1) 52 117 [some (.ref l1), some (.int l2), some (.int l3), o4, o5] [] (n, sl, f) Q := by
  refine w_aload_n cd_52_117 rfl ?_
  refine w_bipush (v := 27) cd_52_118 (by decide) ?_
  exact w_invokevirtual cd_52_120 (show mt_m 3 99 = some (39, 0) by decide +kernel) (rest := []) rfl (as := [.ref l1, .int 27]) rfl h7 (Or.inl h8) ⟨Nat.le_of_ble_eq_true rfl, Nat.le_of_ble_eq_true rfl, Nat.le_of_ble_eq_true rfl⟩ h9
theorem b_52_123 {d : Nat} {Q : (Option Value ⊕ Nat) → mi_H → Prop} (n sl : Nat) (f : Nat → mi_C) {l1 : Nat} {l2 : Int32} {l3 : Int32} {o4 : Option Value} {o5 : Option Value} {fs6 : List Value} {x9 : Nat} {fs11 : List Value} {x14 : Nat} {fs16 : List Value} {x19 : Nat} {fs21 : List Value} {x24 : Int32} (m26 i26 : Nat) (g26 : Nat → Int32) (h7 : f l1 = .inr (3, fs6)) (h8 : l1 < n) (h10 : fs6[1]? = some (.ref x9)) (h12 : f x9 = .inr (2, fs11)) (h13 : x9 < n) (h15 : fs11[6]? = some (.ref x14)) (h17 : f l1 = .inr (3, fs16)) (h18 : l1 < n) (h20 : fs16[1]? = some (.ref x19)) (h22 : f x19 = .inr (2, fs21)) (h23 : x19 < n) (h25 : fs21[12]? = some (.int x24)) (h27 : f x14 = .inl (0, m26, .inl g26)) (h28 : x14 < n) (h29 : mi_ix l2 m26 i26) (h30 : Q (.inl none) (n, sl, (va_up f x14 (.inl (0, m26, .inl (upd g26 i26 x24)))))) : mi_W d 52 123 [some (.ref l1), some (.int l2), some (.int l3), o4, o5] [] (n, sl, f) Q := by
  refine w_aload_n cd_52_123 rfl ?_
  refine w_getfield cd_52_124 (show mt_f 3 19 = some (3, 1) by decide +kernel) h7 h8 h10 ?_
  refine w_getfield cd_52_127 (show mt_f 3 154 = some (2, 6) by decide +kernel) h12 h13 h15 ?_
  refine w_iload_n cd_52_130 rfl ?_
  refine w_aload_n cd_52_131 rfl ?_
  refine w_getfield cd_52_132 (show mt_f 3 19 = some (3, 1) by decide +kernel) h17 h18 h20 ?_
  refine w_getfield cd_52_135 (show mt_f 3 163 = some (2, 12) by decide +kernel) h22 h23 h25 ?_
  refine w_iastore cd_52_138 h27 h28 h29 ?_
  exact w_return cd_52_139 (by decide +kernel) h30
/-! MarloweHost$Reader.readNumber()J -/
set_option maxRecDepth 100000 in
theorem mq_53 : mt_q 53 = my_53 := rfl
set_option maxRecDepth 100000 in
theorem ci_53 : mt_inc 0 my_53.cd = true := by decide +kernel
theorem cd_53_0 : mt_cd 53 0 = some (.aload_n 0) := mt_cd_of (q := (0, .aload_n 0, 1)) mq_53 ci_53 (List.mem_of_getElem? (i := 0) rfl)
theorem cd_53_1 : mt_cd 53 1 = some (.aload_n 0) := mt_cd_of (q := (1, .aload_n 0, 1)) mq_53 ci_53 (List.mem_of_getElem? (i := 1) rfl)
theorem cd_53_2 : mt_cd 53 2 = some (.getfield 15) := mt_cd_of (q := (2, .getfield 15, 3)) mq_53 ci_53 (List.mem_of_getElem? (i := 2) rfl)
theorem cd_53_5 : mt_cd 53 5 = some (.getfield 67) := mt_cd_of (q := (5, .getfield 67, 3)) mq_53 ci_53 (List.mem_of_getElem? (i := 3) rfl)
theorem cd_53_8 : mt_cd 53 8 = some (.bipush 37) := mt_cd_of (q := (8, .bipush 37, 2)) mq_53 ci_53 (List.mem_of_getElem? (i := 4) rfl)
theorem cd_53_10 : mt_cd 53 10 = some (.if_icmp .ne 7) := mt_cd_of (q := (10, .if_icmp .ne 7, 3)) mq_53 ci_53 (List.mem_of_getElem? (i := 5) rfl)
theorem cd_53_13 : mt_cd 53 13 = some (.iconst 1) := mt_cd_of (q := (13, .iconst 1, 1)) mq_53 ci_53 (List.mem_of_getElem? (i := 6) rfl)
theorem cd_53_14 : mt_cd 53 14 = some (.goto 4) := mt_cd_of (q := (14, .goto 4, 3)) mq_53 ci_53 (List.mem_of_getElem? (i := 7) rfl)
theorem cd_53_17 : mt_cd 53 17 = some (.iconst 0) := mt_cd_of (q := (17, .iconst 0, 1)) mq_53 ci_53 (List.mem_of_getElem? (i := 8) rfl)
theorem cd_53_18 : mt_cd 53 18 = some (.invokevirtual 70) := mt_cd_of (q := (18, .invokevirtual 70, 3)) mq_53 ci_53 (List.mem_of_getElem? (i := 9) rfl)
theorem cd_53_21 : mt_cd 53 21 = some (.aload_n 0) := mt_cd_of (q := (21, .aload_n 0, 1)) mq_53 ci_53 (List.mem_of_getElem? (i := 10) rfl)
theorem cd_53_22 : mt_cd 53 22 = some (.getfield 15) := mt_cd_of (q := (22, .getfield 15, 3)) mq_53 ci_53 (List.mem_of_getElem? (i := 11) rfl)
theorem cd_53_25 : mt_cd 53 25 = some (.getfield 88) := mt_cd_of (q := (25, .getfield 88, 3)) mq_53 ci_53 (List.mem_of_getElem? (i := 12) rfl)
theorem cd_53_28 : mt_cd 53 28 = some (.lstore_n 1) := mt_cd_of (q := (28, .lstore_n 1, 1)) mq_53 ci_53 (List.mem_of_getElem? (i := 13) rfl)
theorem cd_53_29 : mt_cd 53 29 = some (.aload_n 0) := mt_cd_of (q := (29, .aload_n 0, 1)) mq_53 ci_53 (List.mem_of_getElem? (i := 14) rfl)
theorem cd_53_30 : mt_cd 53 30 = some (.getfield 15) := mt_cd_of (q := (30, .getfield 15, 3)) mq_53 ci_53 (List.mem_of_getElem? (i := 15) rfl)
theorem cd_53_33 : mt_cd 53 33 = some (.invokevirtual 84) := mt_cd_of (q := (33, .invokevirtual 84, 3)) mq_53 ci_53 (List.mem_of_getElem? (i := 16) rfl)
theorem cd_53_36 : mt_cd 53 36 = some (.lload_n 1) := mt_cd_of (q := (36, .lload_n 1, 1)) mq_53 ci_53 (List.mem_of_getElem? (i := 17) rfl)
theorem cd_53_37 : mt_cd 53 37 = some (.lreturn) := mt_cd_of (q := (37, .lreturn, 1)) mq_53 ci_53 (List.mem_of_getElem? (i := 18) rfl)
theorem b_53_0 {d : Nat} {Q : (Option Value ⊕ Nat) → mi_H → Prop} (n sl : Nat) (f : Nat → mi_C) {l1 : Nat} {o2 : Option Value} {o3 : Option Value} {fs4 : List Value} {x7 : Nat} {fs9 : List Value} {x12 : Int32} (h5 : f l1 = .inr (3, fs4)) (h6 : l1 < n) (h8 : fs4[0]? = some (.ref x7)) (h10 : f x7 = .inr (1, fs9)) (h11 : x7 < n) (h13 : fs9[2]? = some (.int x12)) (h14 : ¬ x12 = 37 → mi_W d 53 17 [some (.ref l1), o2, o3] [.ref l1] (n, sl, f) Q) (h15 : ¬ (¬ x12 = 37) → mi_W d 53 13 [some (.ref l1), o2, o3] [.ref l1] (n, sl, f) Q) : mi_W d 53 0 [some (.ref l1), o2, o3] [] (n, sl, f) Q := by
  refine w_aload_n cd_53_0 rfl ?_
  refine w_aload_n cd_53_1 rfl ?_
  refine w_getfield cd_53_2 (show mt_f 3 15 = some (3, 0) by decide +kernel) h5 h6 h8 ?_
  refine w_getfield cd_53_5 (show mt_f 3 67 = some (1, 2) by decide +kernel) h10 h11 h13 ?_
  refine w_bipush (v := 37) cd_53_8 (by decide) ?_
  exact w_if_icmpne cd_53_10 (by decide) h14 h15
theorem b_53_13 {d : Nat} {Q : (Option Value ⊕ Nat) → mi_H → Prop} (n sl : Nat) (f : Nat → mi_C) {l1 : Nat} {o2 : Option Value} {o3 : Option Value} {s4 : Nat} (h5 : mi_W d 53 18 [some (.ref l1), o2, o3] [.int 1, .ref s4] (n, sl, f) Q) : mi_W d 53 13 [some (.ref l1), o2, o3] [.ref s4] (n, sl, f) Q := by
  refine w_iconst (v := 1) cd_53_13 (by decide) ?_
  exact w_goto cd_53_14 (by decide) h5
theorem b_53_17 {d : Nat} {Q : (Option Value ⊕ Nat) → mi_H → Prop} (n sl : Nat) (f : Nat → mi_C) {l1 : Nat} {o2 : Option Value} {o3 : Option Value} {s4 : Nat} (h5 : mi_W d 53 18 [some (.ref l1), o2, o3] [.int 0, .ref s4] (n, sl, f) Q) : mi_W d 53 17 [some (.ref l1), o2, o3] [.ref s4] (n, sl, f) Q := by
  refine w_iconst (v := 0) cd_53_17 (by decide) ?_
  exact h5
theorem b_53_18 {d : Nat} {Q : (Option Value ⊕ Nat) → mi_H → Prop} (n sl : Nat) (f : Nat → mi_C) {l1 : Nat} {o2 : Option Value} {o3 : Option Value} {s4 : Int32} {s5 : Nat} {fs6 : List Value} (h7 : f s5 = .inr (3, fs6)) (h8 : s5 < n) (h9 : mi_W d 38 0 (mi_en 2 [.ref s5, .int s4]) [] (n, sl, f) (mi_Kc d 53 18 [some (.ref l1), o2, o3] [] Q)) : mi_W (d + 1) 53 18 [some (.ref l1), o2, o3] [.int s4, .ref s5] (n, sl, f) Q := by
  exact w_invokevirtual cd_53_18 (show mt_m 3 70 = some (38, 0) by decide +kernel) (rest := []) rfl (as := [.ref s5, .int s4]) rfl h7 (Or.inl h8) ⟨Nat.le_of_ble_eq_true rfl, Nat.le_of_ble_eq_true rfl, Nat.le_of_ble_eq_true rfl⟩ h9
theorem b_53_21 {d : Nat} {Q : (Option Value ⊕ Nat) → mi_H → Prop} (n sl : Nat) (f : Nat → mi_C) {l1 : Nat} {o2 : Option Value} {o3 : Option Value} {fs4 : List Value} {x7 : Nat} {fs9 : List Value} {x12 : Int64} {fs14 : List Value} {x17 : Nat} {fs19 : List Value} (h5 : f l1 = .inr (3, fs4)) (h6 : l1 < n) (h8 : fs4[0]? = some (.ref x7)) (h10 : f x7 = .inr (1, fs9)) (h11 : x7 < n) (h13 : fs9[5]? = some (.long x12)) (h15 : f l1 = .inr (3, fs14)) (h16 : l1 < n) (h18 : fs14[0]? = some (.ref x17)) (h20 : f x17 = .inr (1, fs19)) (h21 : x17 < n) (h22 : mi_W d 24 0 (mi_en 2 [.ref x17]) [] (n, sl, f) (mi_Kc d 53 33 [some (.ref l1), some (.long x12), none] [] Q)) : mi_W (d + 1) 53 21 [some (.ref l1), o2, o3] [] (n, sl, f) Q := by
  refine w_aload_n cd_53_21 rfl ?_
  refine w_getfield cd_53_22 (show mt_f 3 15 = some (3, 0) by decide +kernel) h5 h6 h8 ?_
  refine w_getfield cd_53_25 (show mt_f 3 88 = some (1, 5) by decide +kernel) h10 h11 h13 ?_
  refine w_lstore_n (ls' := [some (.ref l1), some (.long x12), none]) cd_53_28 (Nat.le_of_ble_eq_true rfl) rfl ?_
  refine w_aload_n cd_53_29 rfl ?_
  refine w_getfield cd_53_30 (show mt_f 3 15 = some (3, 0) by decide +kernel) h15 h16 h18 ?_
  exact w_invokevirtual cd_53_33 (show mt_m 3 84 = some (24, 0) by decide +kernel) (rest := []) rfl (as := [.ref x17]) rfl h20 (Or.inl h21) ⟨Nat.le_of_ble_eq_true rfl, Nat.le_of_ble_eq_true rfl, Nat.le_of_ble_eq_true rfl⟩ h22
theorem b_53_36 {d : Nat} {Q : (Option Value ⊕ Nat) → mi_H → Prop} (n sl : Nat) (f : Nat → mi_C) {l1 : Nat} {l2 : Int64} (h3 : Q (.inl (some (.long l2))) (n, sl, f)) : mi_W d 53 36 [some (.ref l1), some (.long l2), none] [] (n, sl, f) Q := by
  refine w_lload_n cd_53_36 rfl ?_
  exact w_lreturn cd_53_37 (by decide +kernel) h3
/-! MarloweHost$Tree.addBounds(JJ)Z -/
set_option maxRecDepth 100000 in
theorem mq_54 : mt_q 54 = my_54 := rfl
set_option maxRecDepth 100000 in
theorem ci_54 : mt_inc 0 my_54.cd = true := by decide +kernel
theorem cd_54_0 : mt_cd 54 0 = some (.aload_n 0) := mt_cd_of (q := (0, .aload_n 0, 1)) mq_54 ci_54 (List.mem_of_getElem? (i := 0) rfl)
theorem cd_54_1 : mt_cd 54 1 = some (.getfield 51) := mt_cd_of (q := (1, .getfield 51, 3)) mq_54 ci_54 (List.mem_of_getElem? (i := 1) rfl)
theorem cd_54_4 : mt_cd 54 4 = some (.iconst 2) := mt_cd_of (q := (4, .iconst 2, 1)) mq_54 ci_54 (List.mem_of_getElem? (i := 2) rfl)
theorem cd_54_5 : mt_cd 54 5 = some (.iadd) := mt_cd_of (q := (5, .iadd, 1)) mq_54 ci_54 (List.mem_of_getElem? (i := 3) rfl)
theorem cd_54_6 : mt_cd 54 6 = some (.sipush 4096) := mt_cd_of (q := (6, .sipush 4096, 3)) mq_54 ci_54 (List.mem_of_getElem? (i := 4) rfl)
theorem cd_54_9 : mt_cd 54 9 = some (.if_icmp .le 5) := mt_cd_of (q := (9, .if_icmp .le 5, 3)) mq_54 ci_54 (List.mem_of_getElem? (i := 5) rfl)
theorem cd_54_12 : mt_cd 54 12 = some (.iconst 0) := mt_cd_of (q := (12, .iconst 0, 1)) mq_54 ci_54 (List.mem_of_getElem? (i := 6) rfl)
theorem cd_54_13 : mt_cd 54 13 = some (.ireturn) := mt_cd_of (q := (13, .ireturn, 1)) mq_54 ci_54 (List.mem_of_getElem? (i := 7) rfl)
theorem cd_54_14 : mt_cd 54 14 = some (.aload_n 0) := mt_cd_of (q := (14, .aload_n 0, 1)) mq_54 ci_54 (List.mem_of_getElem? (i := 8) rfl)
theorem cd_54_15 : mt_cd 54 15 = some (.getfield 44) := mt_cd_of (q := (15, .getfield 44, 3)) mq_54 ci_54 (List.mem_of_getElem? (i := 9) rfl)
theorem cd_54_18 : mt_cd 54 18 = some (.aload_n 0) := mt_cd_of (q := (18, .aload_n 0, 1)) mq_54 ci_54 (List.mem_of_getElem? (i := 10) rfl)
theorem cd_54_19 : mt_cd 54 19 = some (.getfield 51) := mt_cd_of (q := (19, .getfield 51, 3)) mq_54 ci_54 (List.mem_of_getElem? (i := 11) rfl)
theorem cd_54_22 : mt_cd 54 22 = some (.lload_n 1) := mt_cd_of (q := (22, .lload_n 1, 1)) mq_54 ci_54 (List.mem_of_getElem? (i := 12) rfl)
theorem cd_54_23 : mt_cd 54 23 = some (.lastore) := mt_cd_of (q := (23, .lastore, 1)) mq_54 ci_54 (List.mem_of_getElem? (i := 13) rfl)
theorem cd_54_24 : mt_cd 54 24 = some (.aload_n 0) := mt_cd_of (q := (24, .aload_n 0, 1)) mq_54 ci_54 (List.mem_of_getElem? (i := 14) rfl)
theorem cd_54_25 : mt_cd 54 25 = some (.getfield 44) := mt_cd_of (q := (25, .getfield 44, 3)) mq_54 ci_54 (List.mem_of_getElem? (i := 15) rfl)
theorem cd_54_28 : mt_cd 54 28 = some (.aload_n 0) := mt_cd_of (q := (28, .aload_n 0, 1)) mq_54 ci_54 (List.mem_of_getElem? (i := 16) rfl)
theorem cd_54_29 : mt_cd 54 29 = some (.getfield 51) := mt_cd_of (q := (29, .getfield 51, 3)) mq_54 ci_54 (List.mem_of_getElem? (i := 17) rfl)
theorem cd_54_32 : mt_cd 54 32 = some (.iconst 1) := mt_cd_of (q := (32, .iconst 1, 1)) mq_54 ci_54 (List.mem_of_getElem? (i := 18) rfl)
theorem cd_54_33 : mt_cd 54 33 = some (.iadd) := mt_cd_of (q := (33, .iadd, 1)) mq_54 ci_54 (List.mem_of_getElem? (i := 19) rfl)
theorem cd_54_34 : mt_cd 54 34 = some (.lload_n 3) := mt_cd_of (q := (34, .lload_n 3, 1)) mq_54 ci_54 (List.mem_of_getElem? (i := 20) rfl)
theorem cd_54_35 : mt_cd 54 35 = some (.lastore) := mt_cd_of (q := (35, .lastore, 1)) mq_54 ci_54 (List.mem_of_getElem? (i := 21) rfl)
theorem cd_54_36 : mt_cd 54 36 = some (.aload_n 0) := mt_cd_of (q := (36, .aload_n 0, 1)) mq_54 ci_54 (List.mem_of_getElem? (i := 22) rfl)
theorem cd_54_37 : mt_cd 54 37 = some (.dup) := mt_cd_of (q := (37, .dup, 1)) mq_54 ci_54 (List.mem_of_getElem? (i := 23) rfl)
theorem cd_54_38 : mt_cd 54 38 = some (.getfield 51) := mt_cd_of (q := (38, .getfield 51, 3)) mq_54 ci_54 (List.mem_of_getElem? (i := 24) rfl)
theorem cd_54_41 : mt_cd 54 41 = some (.iconst 2) := mt_cd_of (q := (41, .iconst 2, 1)) mq_54 ci_54 (List.mem_of_getElem? (i := 25) rfl)
theorem cd_54_42 : mt_cd 54 42 = some (.iadd) := mt_cd_of (q := (42, .iadd, 1)) mq_54 ci_54 (List.mem_of_getElem? (i := 26) rfl)
theorem cd_54_43 : mt_cd 54 43 = some (.putfield 51) := mt_cd_of (q := (43, .putfield 51, 3)) mq_54 ci_54 (List.mem_of_getElem? (i := 27) rfl)
theorem cd_54_46 : mt_cd 54 46 = some (.iconst 1) := mt_cd_of (q := (46, .iconst 1, 1)) mq_54 ci_54 (List.mem_of_getElem? (i := 28) rfl)
theorem cd_54_47 : mt_cd 54 47 = some (.ireturn) := mt_cd_of (q := (47, .ireturn, 1)) mq_54 ci_54 (List.mem_of_getElem? (i := 29) rfl)
theorem b_54_0 {d : Nat} {Q : (Option Value ⊕ Nat) → mi_H → Prop} (n sl : Nat) (f : Nat → mi_C) {l1 : Nat} {l2 : Int64} {l3 : Int64} {fs4 : List Value} {x7 : Int32} (h5 : f l1 = .inr (2, fs4)) (h6 : l1 < n) (h8 : fs4[12]? = some (.int x7)) (h9 : (x7 + 2) ≤ 4096 → mi_W d 54 14 [some (.ref l1), some (.long l2), none, some (.long l3), none] [] (n, sl, f) Q) (h10 : ¬ ((x7 + 2) ≤ 4096) → mi_W d 54 12 [some (.ref l1), some (.long l2), none, some (.long l3), none] [] (n, sl, f) Q) : mi_W d 54 0 [some (.ref l1), some (.long l2), none, some (.long l3), none] [] (n, sl, f) Q := by
  refine w_aload_n cd_54_0 rfl ?_
  refine w_getfield cd_54_1 (show mt_f 2 51 = some (2, 12) by decide +kernel) h5 h6 h8 ?_
  refine w_iconst (v := 2) cd_54_4 (by decide) ?_
  refine w_iadd cd_54_5 ?_
  refine w_sipush (v := 4096) cd_54_6 (by decide) ?_
  exact w_if_icmple cd_54_9 (by decide) h9 h10
theorem b_54_12 {d : Nat} {Q : (Option Value ⊕ Nat) → mi_H → Prop} (n sl : Nat) (f : Nat → mi_C) {l1 : Nat} {l2 : Int64} {l3 : Int64} (h4 : Q (.inl (some (.int 0))) (n, sl, f)) : mi_W d 54 12 [some (.ref l1), some (.long l2), none, some (.long l3), none] [] (n, sl, f) Q := by
  refine w_iconst (v := 0) cd_54_12 (by decide) ?_
  exact w_ireturn_z cd_54_13 (by decide +kernel) (by decide) h4
theorem b_54_14 {d : Nat} {Q : (Option Value ⊕ Nat) → mi_H → Prop} (n sl : Nat) (f : Nat → mi_C) {l1 : Nat} {l2 : Int64} {l3 : Int64} {fs4 : List Value} {x7 : Nat} {fs9 : List Value} {x12 : Int32} (m14 i14 : Nat) (g14 : Nat → Int64) {fs18 : List Value} {x21 : Nat} {fs23 : List Value} {x26 : Int32} (m28 i28 : Nat) (g28 : Nat → Int64) {fs32 : List Value} {x35 : Int32} {fs37 : List Value} (h5 : f l1 = .inr (2, fs4)) (h6 : l1 < n) (h8 : fs4[10]? = some (.ref x7)) (h10 : f l1 = .inr (2, fs9)) (h11 : l1 < n) (h13 : fs9[12]? = some (.int x12)) (h15 : f x7 = .inl (3, m14, .inr (.inl g14))) (h16 : x7 < n) (h17 : mi_ix x12 m14 i14) (h19 : (va_up f x7 (.inl (3, m14, .inr (.inl (vp_updL g14 i14 l2))))) l1 = .inr (2, fs18)) (h20 : l1 < n) (h22 : fs18[10]? = some (.ref x21)) (h24 : (va_up f x7 (.inl (3, m14, .inr (.inl (vp_updL g14 i14 l2))))) l1 = .inr (2, fs23)) (h25 : l1 < n) (h27 : fs23[12]? = some (.int x26)) (h29 : (va_up f x7 (.inl (3, m14, .inr (.inl (vp_updL g14 i14 l2))))) x21 = .inl (3, m28, .inr (.inl g28))) (h30 : x21 < n) (h31 : mi_ix (x26 + 1) m28 i28) (h33 : (va_up (va_up f x7 (.inl (3, m14, .inr (.inl (vp_updL g14 i14 l2))))) x21 (.inl (3, m28, .inr (.inl (vp_updL g28 i28 l3))))) l1 = .inr (2, fs32)) (h34 : l1 < n) (h36 : fs32[12]? = some (.int x35)) (h38 : (va_up (va_up f x7 (.inl (3, m14, .inr (.inl (vp_updL g14 i14 l2))))) x21 (.inl (3, m28, .inr (.inl (vp_updL g28 i28 l3))))) l1 = .inr (2, fs37)) (h39 : l1 < n) (h40 : 12 < fs37.length) (h41 : Q (.inl (some (.int 1))) (n, sl, (va_up (va_up (va_up f x7 (.inl (3, m14, .inr (.inl (vp_updL g14 i14 l2))))) x21 (.inl (3, m28, .inr (.inl (vp_updL g28 i28 l3))))) l1 (.inr (2, fs37.set 12 (.int (x35 + 2))))))) : mi_W d 54 14 [some (.ref l1), some (.long l2), none, some (.long l3), none] [] (n, sl, f) Q := by
  refine w_aload_n cd_54_14 rfl ?_
  refine w_getfield cd_54_15 (show mt_f 2 44 = some (2, 10) by decide +kernel) h5 h6 h8 ?_
  refine w_aload_n cd_54_18 rfl ?_
  refine w_getfield cd_54_19 (show mt_f 2 51 = some (2, 12) by decide +kernel) h10 h11 h13 ?_
  refine w_lload_n cd_54_22 rfl ?_
  refine w_lastore cd_54_23 h15 h16 h17 ?_
  refine w_aload_n cd_54_24 rfl ?_
  refine w_getfield cd_54_25 (show mt_f 2 44 = some (2, 10) by decide +kernel) h19 h20 h22 ?_
  refine w_aload_n cd_54_28 rfl ?_
  refine w_getfield cd_54_29 (show mt_f 2 51 = some (2, 12) by decide +kernel) h24 h25 h27 ?_
  refine w_iconst (v := 1) cd_54_32 (by decide) ?_
  refine w_iadd cd_54_33 ?_
  refine w_lload_n cd_54_34 rfl ?_
  refine w_lastore cd_54_35 h29 h30 h31 ?_
  refine w_aload_n cd_54_36 rfl ?_
  refine w_dup_r cd_54_37 ?_
  refine w_getfield cd_54_38 (show mt_f 2 51 = some (2, 12) by decide +kernel) h33 h34 h36 ?_
  refine w_iconst (v := 2) cd_54_41 (by decide) ?_
  refine w_iadd cd_54_42 ?_
  refine w_putfield (w := .int (x35 + 2)) cd_54_43 (show mt_f 2 51 = some (2, 12) by decide +kernel) h38 h39 ⟨h40, rfl, Or.inl (by decide)⟩ ?_
  refine w_iconst (v := 1) cd_54_46 (by decide) ?_
  exact w_ireturn_z cd_54_47 (by decide +kernel) (by decide) h41
/-! MarloweHost$Reader.finish()V -/
set_option maxRecDepth 100000 in
theorem mq_55 : mt_q 55 = my_55 := rfl
set_option maxRecDepth 100000 in
theorem ci_55 : mt_inc 0 my_55.cd = true := by decide +kernel
theorem cd_55_0 : mt_cd 55 0 = some (.aload_n 0) := mt_cd_of (q := (0, .aload_n 0, 1)) mq_55 ci_55 (List.mem_of_getElem? (i := 0) rfl)
theorem cd_55_1 : mt_cd 55 1 = some (.aload_n 0) := mt_cd_of (q := (1, .aload_n 0, 1)) mq_55 ci_55 (List.mem_of_getElem? (i := 1) rfl)
theorem cd_55_2 : mt_cd 55 2 = some (.getfield 15) := mt_cd_of (q := (2, .getfield 15, 3)) mq_55 ci_55 (List.mem_of_getElem? (i := 2) rfl)
theorem cd_55_5 : mt_cd 55 5 = some (.getfield 67) := mt_cd_of (q := (5, .getfield 67, 3)) mq_55 ci_55 (List.mem_of_getElem? (i := 3) rfl)
theorem cd_55_8 : mt_cd 55 8 = some (.bipush 39) := mt_cd_of (q := (8, .bipush 39, 2)) mq_55 ci_55 (List.mem_of_getElem? (i := 4) rfl)
theorem cd_55_10 : mt_cd 55 10 = some (.if_icmp .ne 7) := mt_cd_of (q := (10, .if_icmp .ne 7, 3)) mq_55 ci_55 (List.mem_of_getElem? (i := 5) rfl)
theorem cd_55_13 : mt_cd 55 13 = some (.iconst 1) := mt_cd_of (q := (13, .iconst 1, 1)) mq_55 ci_55 (List.mem_of_getElem? (i := 6) rfl)
theorem cd_55_14 : mt_cd 55 14 = some (.goto 4) := mt_cd_of (q := (14, .goto 4, 3)) mq_55 ci_55 (List.mem_of_getElem? (i := 7) rfl)
theorem cd_55_17 : mt_cd 55 17 = some (.iconst 0) := mt_cd_of (q := (17, .iconst 0, 1)) mq_55 ci_55 (List.mem_of_getElem? (i := 8) rfl)
theorem cd_55_18 : mt_cd 55 18 = some (.invokevirtual 70) := mt_cd_of (q := (18, .invokevirtual 70, 3)) mq_55 ci_55 (List.mem_of_getElem? (i := 9) rfl)
theorem cd_55_21 : mt_cd 55 21 = some (.return_) := mt_cd_of (q := (21, .return_, 1)) mq_55 ci_55 (List.mem_of_getElem? (i := 10) rfl)
theorem b_55_0 {d : Nat} {Q : (Option Value ⊕ Nat) → mi_H → Prop} (n sl : Nat) (f : Nat → mi_C) {l1 : Nat} {fs2 : List Value} {x5 : Nat} {fs7 : List Value} {x10 : Int32} (h3 : f l1 = .inr (3, fs2)) (h4 : l1 < n) (h6 : fs2[0]? = some (.ref x5)) (h8 : f x5 = .inr (1, fs7)) (h9 : x5 < n) (h11 : fs7[2]? = some (.int x10)) (h12 : ¬ x10 = 39 → mi_W d 55 17 [some (.ref l1)] [.ref l1] (n, sl, f) Q) (h13 : ¬ (¬ x10 = 39) → mi_W d 55 13 [some (.ref l1)] [.ref l1] (n, sl, f) Q) : mi_W d 55 0 [some (.ref l1)] [] (n, sl, f) Q := by
  refine w_aload_n cd_55_0 rfl ?_
  refine w_aload_n cd_55_1 rfl ?_
  refine w_getfield cd_55_2 (show mt_f 3 15 = some (3, 0) by decide +kernel) h3 h4 h6 ?_
  refine w_getfield cd_55_5 (show mt_f 3 67 = some (1, 2) by decide +kernel) h8 h9 h11 ?_
  refine w_bipush (v := 39) cd_55_8 (by decide) ?_
  exact w_if_icmpne cd_55_10 (by decide) h12 h13
theorem b_55_13 {d : Nat} {Q : (Option Value ⊕ Nat) → mi_H → Prop} (n sl : Nat) (f : Nat → mi_C) {l1 : Nat} {s2 : Nat} (h3 : mi_W d 55 18 [some (.ref l1)] [.int 1, .ref s2] (n, sl, f) Q) : mi_W d 55 13 [some (.ref l1)] [.ref s2] (n, sl, f) Q := by
  refine w_iconst (v := 1) cd_55_13 (by decide) ?_
  exact w_goto cd_55_14 (by decide) h3
theorem b_55_17 {d : Nat} {Q : (Option Value ⊕ Nat) → mi_H → Prop} (n sl : Nat) (f : Nat → mi_C) {l1 : Nat} {s2 : Nat} (h3 : mi_W d 55 18 [some (.ref l1)] [.int 0, .ref s2] (n, sl, f) Q) : mi_W d 55 17 [some (.ref l1)] [.ref s2] (n, sl, f) Q := by
  refine w_iconst (v := 0) cd_55_17 (by decide) ?_
  exact h3
theorem b_55_18 {d : Nat} {Q : (Option Value ⊕ Nat) → mi_H → Prop} (n sl : Nat) (f : Nat → mi_C) {l1 : Nat} {s2 : Int32} {s3 : Nat} {fs4 : List Value} (h5 : f s3 = .inr (3, fs4)) (h6 : s3 < n) (h7 : mi_W d 38 0 (mi_en 2 [.ref s3, .int s2]) [] (n, sl, f) (mi_Kc d 55 18 [some (.ref l1)] [] Q)) : mi_W (d + 1) 55 18 [some (.ref l1)] [.int s2, .ref s3] (n, sl, f) Q := by
  exact w_invokevirtual cd_55_18 (show mt_m 3 70 = some (38, 0) by decide +kernel) (rest := []) rfl (as := [.ref s3, .int s2]) rfl h5 (Or.inl h6) ⟨Nat.le_of_ble_eq_true rfl, Nat.le_of_ble_eq_true rfl, Nat.le_of_ble_eq_true rfl⟩ h7
theorem b_55_21 {d : Nat} {Q : (Option Value ⊕ Nat) → mi_H → Prop} (n sl : Nat) (f : Nat → mi_C) {l1 : Nat} (h2 : Q (.inl none) (n, sl, f)) : mi_W d 55 21 [some (.ref l1)] [] (n, sl, f) Q := by
  exact w_return cd_55_21 (by decide +kernel) h2
/-! MarloweHost$Situation.begin()V -/
set_option maxRecDepth 100000 in
theorem mq_56 : mt_q 56 = my_56 := rfl
set_option maxRecDepth 100000 in
theorem ci_56 : mt_inc 0 my_56.cd = true := by decide +kernel
theorem cd_56_0 : mt_cd 56 0 = some (.aload_n 0) := mt_cd_of (q := (0, .aload_n 0, 1)) mq_56 ci_56 (List.mem_of_getElem? (i := 0) rfl)
theorem cd_56_1 : mt_cd 56 1 = some (.iconst 0) := mt_cd_of (q := (1, .iconst 0, 1)) mq_56 ci_56 (List.mem_of_getElem? (i := 1) rfl)
theorem cd_56_2 : mt_cd 56 2 = some (.putfield 21) := mt_cd_of (q := (2, .putfield 21, 3)) mq_56 ci_56 (List.mem_of_getElem? (i := 2) rfl)
theorem cd_56_5 : mt_cd 56 5 = some (.aload_n 0) := mt_cd_of (q := (5, .aload_n 0, 1)) mq_56 ci_56 (List.mem_of_getElem? (i := 3) rfl)
theorem cd_56_6 : mt_cd 56 6 = some (.lconst 0) := mt_cd_of (q := (6, .lconst 0, 1)) mq_56 ci_56 (List.mem_of_getElem? (i := 4) rfl)
theorem cd_56_7 : mt_cd 56 7 = some (.putfield 25) := mt_cd_of (q := (7, .putfield 25, 3)) mq_56 ci_56 (List.mem_of_getElem? (i := 5) rfl)
theorem cd_56_10 : mt_cd 56 10 = some (.aload_n 0) := mt_cd_of (q := (10, .aload_n 0, 1)) mq_56 ci_56 (List.mem_of_getElem? (i := 6) rfl)
theorem cd_56_11 : mt_cd 56 11 = some (.getfield 9) := mt_cd_of (q := (11, .getfield 9, 3)) mq_56 ci_56 (List.mem_of_getElem? (i := 7) rfl)
theorem cd_56_14 : mt_cd 56 14 = some (.lconst 0) := mt_cd_of (q := (14, .lconst 0, 1)) mq_56 ci_56 (List.mem_of_getElem? (i := 8) rfl)
theorem cd_56_15 : mt_cd 56 15 = some (.invokestatic 29) := mt_cd_of (q := (15, .invokestatic 29, 3)) mq_56 ci_56 (List.mem_of_getElem? (i := 9) rfl)
theorem cd_56_18 : mt_cd 56 18 = some (.aload_n 0) := mt_cd_of (q := (18, .aload_n 0, 1)) mq_56 ci_56 (List.mem_of_getElem? (i := 10) rfl)
theorem cd_56_19 : mt_cd 56 19 = some (.getfield 15) := mt_cd_of (q := (19, .getfield 15, 3)) mq_56 ci_56 (List.mem_of_getElem? (i := 11) rfl)
theorem cd_56_22 : mt_cd 56 22 = some (.lconst 0) := mt_cd_of (q := (22, .lconst 0, 1)) mq_56 ci_56 (List.mem_of_getElem? (i := 12) rfl)
theorem cd_56_23 : mt_cd 56 23 = some (.invokestatic 29) := mt_cd_of (q := (23, .invokestatic 29, 3)) mq_56 ci_56 (List.mem_of_getElem? (i := 13) rfl)
theorem cd_56_26 : mt_cd 56 26 = some (.aload_n 0) := mt_cd_of (q := (26, .aload_n 0, 1)) mq_56 ci_56 (List.mem_of_getElem? (i := 14) rfl)
theorem cd_56_27 : mt_cd 56 27 = some (.getfield 18) := mt_cd_of (q := (27, .getfield 18, 3)) mq_56 ci_56 (List.mem_of_getElem? (i := 15) rfl)
theorem cd_56_30 : mt_cd 56 30 = some (.lconst 0) := mt_cd_of (q := (30, .lconst 0, 1)) mq_56 ci_56 (List.mem_of_getElem? (i := 16) rfl)
theorem cd_56_31 : mt_cd 56 31 = some (.invokestatic 29) := mt_cd_of (q := (31, .invokestatic 29, 3)) mq_56 ci_56 (List.mem_of_getElem? (i := 17) rfl)
theorem cd_56_34 : mt_cd 56 34 = some (.aload_n 0) := mt_cd_of (q := (34, .aload_n 0, 1)) mq_56 ci_56 (List.mem_of_getElem? (i := 18) rfl)
theorem cd_56_35 : mt_cd 56 35 = some (.iconst 0) := mt_cd_of (q := (35, .iconst 0, 1)) mq_56 ci_56 (List.mem_of_getElem? (i := 19) rfl)
theorem cd_56_36 : mt_cd 56 36 = some (.putfield 35) := mt_cd_of (q := (36, .putfield 35, 3)) mq_56 ci_56 (List.mem_of_getElem? (i := 20) rfl)
theorem cd_56_39 : mt_cd 56 39 = some (.aload_n 0) := mt_cd_of (q := (39, .aload_n 0, 1)) mq_56 ci_56 (List.mem_of_getElem? (i := 21) rfl)
theorem cd_56_40 : mt_cd 56 40 = some (.iconst 0) := mt_cd_of (q := (40, .iconst 0, 1)) mq_56 ci_56 (List.mem_of_getElem? (i := 22) rfl)
theorem cd_56_41 : mt_cd 56 41 = some (.putfield 38) := mt_cd_of (q := (41, .putfield 38, 3)) mq_56 ci_56 (List.mem_of_getElem? (i := 23) rfl)
theorem cd_56_44 : mt_cd 56 44 = some (.return_) := mt_cd_of (q := (44, .return_, 1)) mq_56 ci_56 (List.mem_of_getElem? (i := 24) rfl)
theorem b_56_0 {d : Nat} {Q : (Option Value ⊕ Nat) → mi_H → Prop} (n sl : Nat) (f : Nat → mi_C) {l1 : Nat} {fs2 : List Value} {fs6 : List Value} {fs10 : List Value} {x13 : Nat} (h3 : f l1 = .inr (9, fs2)) (h4 : l1 < n) (h5 : 0 < fs2.length) (h7 : (va_up f l1 (.inr (9, fs2.set 0 (.int 0)))) l1 = .inr (9, fs6)) (h8 : l1 < n) (h9 : 1 < fs6.length) (h11 : (va_up (va_up f l1 (.inr (9, fs2.set 0 (.int 0)))) l1 (.inr (9, fs6.set 1 (.long 0)))) l1 = .inr (9, fs10)) (h12 : l1 < n) (h14 : fs10[2]? = some (.ref x13)) (h15 : mi_W d 57 0 (mi_en 5 [.ref x13, .long 0]) [] (n, sl, (va_up (va_up f l1 (.inr (9, fs2.set 0 (.int 0)))) l1 (.inr (9, fs6.set 1 (.long 0))))) (mi_Kc d 56 15 [some (.ref l1)] [] Q)) : mi_W (d + 1) 56 0 [some (.ref l1)] [] (n, sl, f) Q := by
  refine w_aload_n cd_56_0 rfl ?_
  refine w_iconst (v := 0) cd_56_1 (by decide) ?_
  refine w_putfield (w := .int 0) cd_56_2 (show mt_f 9 21 = some (9, 0) by decide +kernel) h3 h4 ⟨h5, rfl, Or.inl (by decide)⟩ ?_
  refine w_aload_n cd_56_5 rfl ?_
  refine w_lconst (lv := 0) cd_56_6 (by decide) ?_
  refine w_putfield (w := .long 0) cd_56_7 (show mt_f 9 25 = some (9, 1) by decide +kernel) h7 h8 ⟨h9, rfl, Or.inl (by decide)⟩ ?_
  refine w_aload_n cd_56_10 rfl ?_
  refine w_getfield cd_56_11 (show mt_f 9 9 = some (9, 2) by decide +kernel) h11 h12 h14 ?_
  refine w_lconst (lv := 0) cd_56_14 (by decide) ?_
  exact w_invokestatic cd_56_15 (show mt_m 9 29 = some (57, 4) by decide +kernel) (by decide) (rest := []) rfl (as := [.ref x13, .long 0]) rfl ⟨Nat.le_of_ble_eq_true rfl, Nat.le_of_ble_eq_true rfl, Nat.le_of_ble_eq_true rfl⟩ h15
theorem b_56_18 {d : Nat} {Q : (Option Value ⊕ Nat) → mi_H → Prop} (n sl : Nat) (f : Nat → mi_C) {l1 : Nat} {fs2 : List Value} {x5 : Nat} (h3 : f l1 = .inr (9, fs2)) (h4 : l1 < n) (h6 : fs2[3]? = some (.ref x5)) (h7 : mi_W d 57 0 (mi_en 5 [.ref x5, .long 0]) [] (n, sl, f) (mi_Kc d 56 23 [some (.ref l1)] [] Q)) : mi_W (d + 1) 56 18 [some (.ref l1)] [] (n, sl, f) Q := by
  refine w_aload_n cd_56_18 rfl ?_
  refine w_getfield cd_56_19 (show mt_f 9 15 = some (9, 3) by decide +kernel) h3 h4 h6 ?_
  refine w_lconst (lv := 0) cd_56_22 (by decide) ?_
  exact w_invokestatic cd_56_23 (show mt_m 9 29 = some (57, 4) by decide +kernel) (by decide) (rest := []) rfl (as := [.ref x5, .long 0]) rfl ⟨Nat.le_of_ble_eq_true rfl, Nat.le_of_ble_eq_true rfl, Nat.le_of_ble_eq_true rfl⟩ h7
theorem b_56_26 {d : Nat} {Q : (Option Value ⊕ Nat) → mi_H → Prop} (n sl : Nat) (f : Nat → mi_C) {l1 : Nat} {fs2 : List Value} {x5 : Nat} (h3 : f l1 = .inr (9, fs2)) (h4 : l1 < n) (h6 : fs2[4]? = some (.ref x5)) (h7 : mi_W d 57 0 (mi_en 5 [.ref x5, .long 0]) [] (n, sl, f) (mi_Kc d 56 31 [some (.ref l1)] [] Q)) : mi_W (d + 1) 56 26 [some (.ref l1)] [] (n, sl, f) Q := by
  refine w_aload_n cd_56_26 rfl ?_
  refine w_getfield cd_56_27 (show mt_f 9 18 = some (9, 4) by decide +kernel) h3 h4 h6 ?_
  refine w_lconst (lv := 0) cd_56_30 (by decide) ?_
  exact w_invokestatic cd_56_31 (show mt_m 9 29 = some (57, 4) by decide +kernel) (by decide) (rest := []) rfl (as := [.ref x5, .long 0]) rfl ⟨Nat.le_of_ble_eq_true rfl, Nat.le_of_ble_eq_true rfl, Nat.le_of_ble_eq_true rfl⟩ h7
theorem b_56_34 {d : Nat} {Q : (Option Value ⊕ Nat) → mi_H → Prop} (n sl : Nat) (f : Nat → mi_C) {l1 : Nat} {fs2 : List Value} {fs6 : List Value} (h3 : f l1 = .inr (9, fs2)) (h4 : l1 < n) (h5 : 5 < fs2.length) (h7 : (va_up f l1 (.inr (9, fs2.set 5 (.int 0)))) l1 = .inr (9, fs6)) (h8 : l1 < n) (h9 : 6 < fs6.length) (h10 : Q (.inl none) (n, sl, (va_up (va_up f l1 (.inr (9, fs2.set 5 (.int 0)))) l1 (.inr (9, fs6.set 6 (.int 0)))))) : mi_W d 56 34 [some (.ref l1)] [] (n, sl, f) Q := by
  refine w_aload_n cd_56_34 rfl ?_
  refine w_iconst (v := 0) cd_56_35 (by decide) ?_
  refine w_putfield (w := .int 0) cd_56_36 (show mt_f 9 35 = some (9, 5) by decide +kernel) h3 h4 ⟨h5, rfl, Or.inl (by decide)⟩ ?_
  refine w_aload_n cd_56_39 rfl ?_
  refine w_iconst (v := 0) cd_56_40 (by decide) ?_
  refine w_putfield (w := .int 0) cd_56_41 (show mt_f 9 38 = some (9, 6) by decide +kernel) h7 h8 ⟨h9, rfl, Or.inl (by decide)⟩ ?_
  exact w_return cd_56_44 (by decide +kernel) h10
/-! MarloweHostLaw.wallet(LMarloweHost;IIJ[J)I -/
set_option maxRecDepth 100000 in
theorem mq_58 : mt_q 58 = my_58 := rfl
set_option maxRecDepth 100000 in
theorem ci_58 : mt_inc 0 my_58.cd = true := by decide +kernel
theorem cd_58_0 : mt_cd 58 0 = some (.aload 5) := mt_cd_of (q := (0, .aload 5, 2)) mq_58 ci_58 (List.mem_of_getElem? (i := 0) rfl)
theorem cd_58_2 : mt_cd 58 2 = some (.iconst 0) := mt_cd_of (q := (2, .iconst 0, 1)) mq_58 ci_58 (List.mem_of_getElem? (i := 1) rfl)
theorem cd_58_3 : mt_cd 58 3 = some (.aload_n 0) := mt_cd_of (q := (3, .aload_n 0, 1)) mq_58 ci_58 (List.mem_of_getElem? (i := 2) rfl)
theorem cd_58_4 : mt_cd 58 4 = some (.iload_n 1) := mt_cd_of (q := (4, .iload_n 1, 1)) mq_58 ci_58 (List.mem_of_getElem? (i := 3) rfl)
theorem cd_58_5 : mt_cd 58 5 = some (.iload_n 2) := mt_cd_of (q := (5, .iload_n 2, 1)) mq_58 ci_58 (List.mem_of_getElem? (i := 4) rfl)
theorem cd_58_6 : mt_cd 58 6 = some (.lload_n 3) := mt_cd_of (q := (6, .lload_n 3, 1)) mq_58 ci_58 (List.mem_of_getElem? (i := 5) rfl)
theorem cd_58_7 : mt_cd 58 7 = some (.invokevirtual 21) := mt_cd_of (q := (7, .invokevirtual 21, 3)) mq_58 ci_58 (List.mem_of_getElem? (i := 6) rfl)
theorem cd_58_10 : mt_cd 58 10 = some (.lastore) := mt_cd_of (q := (10, .lastore, 1)) mq_58 ci_58 (List.mem_of_getElem? (i := 7) rfl)
theorem cd_58_11 : mt_cd 58 11 = some (.goto 7) := mt_cd_of (q := (11, .goto 7, 3)) mq_58 ci_58 (List.mem_of_getElem? (i := 8) rfl)
theorem cd_58_14 : mt_cd 58 14 = some (.astore 6) := mt_cd_of (q := (14, .astore 6, 2)) mq_58 ci_58 (List.mem_of_getElem? (i := 9) rfl)
theorem cd_58_16 : mt_cd 58 16 = some (.iconst 1) := mt_cd_of (q := (16, .iconst 1, 1)) mq_58 ci_58 (List.mem_of_getElem? (i := 10) rfl)
theorem cd_58_17 : mt_cd 58 17 = some (.ireturn) := mt_cd_of (q := (17, .ireturn, 1)) mq_58 ci_58 (List.mem_of_getElem? (i := 11) rfl)
theorem cd_58_18 : mt_cd 58 18 = some (.iconst 0) := mt_cd_of (q := (18, .iconst 0, 1)) mq_58 ci_58 (List.mem_of_getElem? (i := 12) rfl)
theorem cd_58_19 : mt_cd 58 19 = some (.ireturn) := mt_cd_of (q := (19, .ireturn, 1)) mq_58 ci_58 (List.mem_of_getElem? (i := 13) rfl)
theorem b_58_0 {d : Nat} {Q : (Option Value ⊕ Nat) → mi_H → Prop} (n sl : Nat) (f : Nat → mi_C) {l1 : Nat} {l2 : Int32} {l3 : Int32} {l4 : Int64} {l5 : Nat} {o6 : Option Value} {fs7 : List Value} (h8 : f l1 = .inr (0, fs7)) (h9 : l1 < n) (h10 : mi_W d 59 0 (mi_en 8 [.ref l1, .int l2, .int l3, .long l4]) [] (n, sl, f) (mi_Kc d 58 7 [some (.ref l1), some (.int l2), some (.int l3), some (.long l4), none, some (.ref l5), o6] [.int 0, .ref l5] Q)) : mi_W (d + 1) 58 0 [some (.ref l1), some (.int l2), some (.int l3), some (.long l4), none, some (.ref l5), o6] [] (n, sl, f) Q := by
  refine w_aload cd_58_0 rfl ?_
  refine w_iconst (v := 0) cd_58_2 (by decide) ?_
  refine w_aload_n cd_58_3 rfl ?_
  refine w_iload_n cd_58_4 rfl ?_
  refine w_iload_n cd_58_5 rfl ?_
  refine w_lload_n cd_58_6 rfl ?_
  exact w_invokevirtual cd_58_7 (show mt_m 18 21 = some (59, 0) by decide +kernel) (rest := [.int 0, .ref l5]) rfl (as := [.ref l1, .int l2, .int l3, .long l4]) rfl h8 (Or.inl h9) ⟨Nat.le_of_ble_eq_true rfl, Nat.le_of_ble_eq_true rfl, Nat.le_of_ble_eq_true rfl⟩ h10
theorem b_58_10 {d : Nat} {Q : (Option Value ⊕ Nat) → mi_H → Prop} (n sl : Nat) (f : Nat → mi_C) {l1 : Nat} {l2 : Int32} {l3 : Int32} {l4 : Int64} {l5 : Nat} {o6 : Option Value} {s7 : Int64} {s8 : Int32} {s9 : Nat} (m10 i10 : Nat) (g10 : Nat → Int64) (h11 : f s9 = .inl (3, m10, .inr (.inl g10))) (h12 : s9 < n) (h13 : mi_ix s8 m10 i10) (h14 : mi_W d 58 18 [some (.ref l1), some (.int l2), some (.int l3), some (.long l4), none, some (.ref l5), o6] [] (n, sl, (va_up f s9 (.inl (3, m10, .inr (.inl (vp_updL g10 i10 s7)))))) Q) : mi_W d 58 10 [some (.ref l1), some (.int l2), some (.int l3), some (.long l4), none, some (.ref l5), o6] [.long s7, .int s8, .ref s9] (n, sl, f) Q := by
  refine w_lastore cd_58_10 h11 h12 h13 ?_
  exact w_goto cd_58_11 (by decide) h14
theorem b_58_14 {d : Nat} {Q : (Option Value ⊕ Nat) → mi_H → Prop} (n sl : Nat) (f : Nat → mi_C) {l1 : Nat} {l2 : Int32} {l3 : Int32} {l4 : Int64} {l5 : Nat} {o6 : Option Value} {s7 : Nat} (h8 : Q (.inl (some (.int 1))) (n, sl, f)) : mi_W d 58 14 [some (.ref l1), some (.int l2), some (.int l3), some (.long l4), none, some (.ref l5), o6] [.ref s7] (n, sl, f) Q := by
  refine w_astore (ls' := [some (.ref l1), some (.int l2), some (.int l3), some (.long l4), none, some (.ref l5), some (.ref s7)]) cd_58_14 (Nat.le_of_ble_eq_true rfl) rfl ?_
  refine w_iconst (v := 1) cd_58_16 (by decide) ?_
  exact w_ireturn_i cd_58_17 (by decide +kernel) h8
theorem b_58_18 {d : Nat} {Q : (Option Value ⊕ Nat) → mi_H → Prop} (n sl : Nat) (f : Nat → mi_C) {l1 : Nat} {l2 : Int32} {l3 : Int32} {l4 : Int64} {l5 : Nat} {o6 : Option Value} (h7 : Q (.inl (some (.int 0))) (n, sl, f)) : mi_W d 58 18 [some (.ref l1), some (.int l2), some (.int l3), some (.long l4), none, some (.ref l5), o6] [] (n, sl, f) Q := by
  refine w_iconst (v := 0) cd_58_18 (by decide) ?_
  exact w_ireturn_i cd_58_19 (by decide +kernel) h7
/-! MarloweHost.wallet(IIJ)J -/
set_option maxRecDepth 100000 in
theorem mq_59 : mt_q 59 = my_59 := rfl
set_option maxRecDepth 100000 in
theorem ci_59 : mt_inc 0 my_59.cd = true := by decide +kernel
theorem cd_59_0 : mt_cd 59 0 = some (.iload_n 1) := mt_cd_of (q := (0, .iload_n 1, 1)) mq_59 ci_59 (List.mem_of_getElem? (i := 0) rfl)
theorem cd_59_1 : mt_cd 59 1 = some (.invokestatic 114) := mt_cd_of (q := (1, .invokestatic 114, 3)) mq_59 ci_59 (List.mem_of_getElem? (i := 1) rfl)
theorem cd_59_4 : mt_cd 59 4 = some (.ifCond .eq 24) := mt_cd_of (q := (4, .ifCond .eq 24, 3)) mq_59 ci_59 (List.mem_of_getElem? (i := 2) rfl)
theorem cd_59_7 : mt_cd 59 7 = some (.iload_n 2) := mt_cd_of (q := (7, .iload_n 2, 1)) mq_59 ci_59 (List.mem_of_getElem? (i := 3) rfl)
theorem cd_59_8 : mt_cd 59 8 = some (.invokestatic 118) := mt_cd_of (q := (8, .invokestatic 118, 3)) mq_59 ci_59 (List.mem_of_getElem? (i := 4) rfl)
theorem cd_59_11 : mt_cd 59 11 = some (.ifCond .eq 17) := mt_cd_of (q := (11, .ifCond .eq 17, 3)) mq_59 ci_59 (List.mem_of_getElem? (i := 5) rfl)
theorem cd_59_14 : mt_cd 59 14 = some (.lload_n 3) := mt_cd_of (q := (14, .lload_n 3, 1)) mq_59 ci_59 (List.mem_of_getElem? (i := 6) rfl)
theorem cd_59_15 : mt_cd 59 15 = some (.lconst 0) := mt_cd_of (q := (15, .lconst 0, 1)) mq_59 ci_59 (List.mem_of_getElem? (i := 7) rfl)
theorem cd_59_16 : mt_cd 59 16 = some (.lcmp) := mt_cd_of (q := (16, .lcmp, 1)) mq_59 ci_59 (List.mem_of_getElem? (i := 8) rfl)
theorem cd_59_17 : mt_cd 59 17 = some (.ifCond .lt 11) := mt_cd_of (q := (17, .ifCond .lt 11, 3)) mq_59 ci_59 (List.mem_of_getElem? (i := 9) rfl)
theorem cd_59_20 : mt_cd 59 20 = some (.lload_n 3) := mt_cd_of (q := (20, .lload_n 3, 1)) mq_59 ci_59 (List.mem_of_getElem? (i := 10) rfl)
theorem cd_59_21 : mt_cd 59 21 = some (.ldc2_w 121) := mt_cd_of (q := (21, .ldc2_w 121, 3)) mq_59 ci_59 (List.mem_of_getElem? (i := 11) rfl)
theorem cd_59_24 : mt_cd 59 24 = some (.lcmp) := mt_cd_of (q := (24, .lcmp, 1)) mq_59 ci_59 (List.mem_of_getElem? (i := 12) rfl)
theorem cd_59_25 : mt_cd 59 25 = some (.ifCond .le 13) := mt_cd_of (q := (25, .ifCond .le 13, 3)) mq_59 ci_59 (List.mem_of_getElem? (i := 13) rfl)
theorem cd_59_28 : mt_cd 59 28 = some (.new 123) := mt_cd_of (q := (28, .new 123, 3)) mq_59 ci_59 (List.mem_of_getElem? (i := 14) rfl)
theorem cd_59_31 : mt_cd 59 31 = some (.dup) := mt_cd_of (q := (31, .dup, 1)) mq_59 ci_59 (List.mem_of_getElem? (i := 15) rfl)
theorem cd_59_32 : mt_cd 59 32 = some (.ldc 125) := mt_cd_of (q := (32, .ldc 125, 2)) mq_59 ci_59 (List.mem_of_getElem? (i := 16) rfl)
theorem cd_59_34 : mt_cd 59 34 = some (.invokespecial 127) := mt_cd_of (q := (34, .invokespecial 127, 3)) mq_59 ci_59 (List.mem_of_getElem? (i := 17) rfl)
theorem cd_59_37 : mt_cd 59 37 = some (.athrow) := mt_cd_of (q := (37, .athrow, 1)) mq_59 ci_59 (List.mem_of_getElem? (i := 18) rfl)
theorem cd_59_38 : mt_cd 59 38 = some (.iload_n 1) := mt_cd_of (q := (38, .iload_n 1, 1)) mq_59 ci_59 (List.mem_of_getElem? (i := 19) rfl)
theorem cd_59_39 : mt_cd 59 39 = some (.iconst 4) := mt_cd_of (q := (39, .iconst 4, 1)) mq_59 ci_59 (List.mem_of_getElem? (i := 20) rfl)
theorem cd_59_40 : mt_cd 59 40 = some (.imul) := mt_cd_of (q := (40, .imul, 1)) mq_59 ci_59 (List.mem_of_getElem? (i := 21) rfl)
theorem cd_59_41 : mt_cd 59 41 = some (.iload_n 2) := mt_cd_of (q := (41, .iload_n 2, 1)) mq_59 ci_59 (List.mem_of_getElem? (i := 22) rfl)
theorem cd_59_42 : mt_cd 59 42 = some (.iadd) := mt_cd_of (q := (42, .iadd, 1)) mq_59 ci_59 (List.mem_of_getElem? (i := 23) rfl)
theorem cd_59_43 : mt_cd 59 43 = some (.istore 5) := mt_cd_of (q := (43, .istore 5, 2)) mq_59 ci_59 (List.mem_of_getElem? (i := 24) rfl)
theorem cd_59_45 : mt_cd 59 45 = some (.aload_n 0) := mt_cd_of (q := (45, .aload_n 0, 1)) mq_59 ci_59 (List.mem_of_getElem? (i := 25) rfl)
theorem cd_59_46 : mt_cd 59 46 = some (.getfield 35) := mt_cd_of (q := (46, .getfield 35, 3)) mq_59 ci_59 (List.mem_of_getElem? (i := 26) rfl)
theorem cd_59_49 : mt_cd 59 49 = some (.getfield 128) := mt_cd_of (q := (49, .getfield 128, 3)) mq_59 ci_59 (List.mem_of_getElem? (i := 27) rfl)
theorem cd_59_52 : mt_cd 59 52 = some (.iload 5) := mt_cd_of (q := (52, .iload 5, 2)) mq_59 ci_59 (List.mem_of_getElem? (i := 28) rfl)
theorem cd_59_54 : mt_cd 59 54 = some (.laload) := mt_cd_of (q := (54, .laload, 1)) mq_59 ci_59 (List.mem_of_getElem? (i := 29) rfl)
theorem cd_59_55 : mt_cd 59 55 = some (.lstore 6) := mt_cd_of (q := (55, .lstore 6, 2)) mq_59 ci_59 (List.mem_of_getElem? (i := 30) rfl)
theorem cd_59_57 : mt_cd 59 57 = some (.aload_n 0) := mt_cd_of (q := (57, .aload_n 0, 1)) mq_59 ci_59 (List.mem_of_getElem? (i := 31) rfl)
theorem cd_59_58 : mt_cd 59 58 = some (.getfield 35) := mt_cd_of (q := (58, .getfield 35, 3)) mq_59 ci_59 (List.mem_of_getElem? (i := 32) rfl)
theorem cd_59_61 : mt_cd 59 61 = some (.getfield 128) := mt_cd_of (q := (61, .getfield 128, 3)) mq_59 ci_59 (List.mem_of_getElem? (i := 33) rfl)
theorem cd_59_64 : mt_cd 59 64 = some (.iload 5) := mt_cd_of (q := (64, .iload 5, 2)) mq_59 ci_59 (List.mem_of_getElem? (i := 34) rfl)
theorem cd_59_66 : mt_cd 59 66 = some (.lload_n 3) := mt_cd_of (q := (66, .lload_n 3, 1)) mq_59 ci_59 (List.mem_of_getElem? (i := 35) rfl)
theorem cd_59_67 : mt_cd 59 67 = some (.lastore) := mt_cd_of (q := (67, .lastore, 1)) mq_59 ci_59 (List.mem_of_getElem? (i := 36) rfl)
theorem cd_59_68 : mt_cd 59 68 = some (.lload 6) := mt_cd_of (q := (68, .lload 6, 2)) mq_59 ci_59 (List.mem_of_getElem? (i := 37) rfl)
theorem cd_59_70 : mt_cd 59 70 = some (.lreturn) := mt_cd_of (q := (70, .lreturn, 1)) mq_59 ci_59 (List.mem_of_getElem? (i := 38) rfl)
theorem b_59_0 {d : Nat} {Q : (Option Value ⊕ Nat) → mi_H → Prop} (n sl : Nat) (f : Nat → mi_C) {l1 : Nat} {l2 : Int32} {l3 : Int32} {l4 : Int64} {o5 : Option Value} {o6 : Option Value} {o7 : Option Value} (h8 : mi_W d 60 0 (mi_en 1 [.int l2]) [] (n, sl, f) (mi_Kc d 59 1 [some (.ref l1), some (.int l2), some (.int l3), some (.long l4), none, o5, o6, o7] [] Q)) : mi_W (d + 1) 59 0 [some (.ref l1), some (.int l2), some (.int l3), some (.long l4), none, o5, o6, o7] [] (n, sl, f) Q := by
  refine w_iload_n cd_59_0 rfl ?_
  exact w_invokestatic cd_59_1 (show mt_m 0 114 = some (60, 4) by decide +kernel) (by decide) (rest := []) rfl (as := [.int l2]) rfl ⟨Nat.le_of_ble_eq_true rfl, Nat.le_of_ble_eq_true rfl, Nat.le_of_ble_eq_true rfl⟩ h8
theorem b_59_4 {d : Nat} {Q : (Option Value ⊕ Nat) → mi_H → Prop} (n sl : Nat) (f : Nat → mi_C) {l1 : Nat} {l2 : Int32} {l3 : Int32} {l4 : Int64} {o5 : Option Value} {o6 : Option Value} {o7 : Option Value} {s8 : Int32} (h9 : s8 = (0 : Int32) → mi_W d 59 28 [some (.ref l1), some (.int l2), some (.int l3), some (.long l4), none, o5, o6, o7] [] (n, sl, f) Q) (h10 : ¬ (s8 = (0 : Int32)) → mi_W d 59 7 [some (.ref l1), some (.int l2), some (.int l3), some (.long l4), none, o5, o6, o7] [] (n, sl, f) Q) : mi_W d 59 4 [some (.ref l1), some (.int l2), some (.int l3), some (.long l4), none, o5, o6, o7] [.int s8] (n, sl, f) Q := by
  exact w_ifeq cd_59_4 (by decide) h9 h10
theorem b_59_7 {d : Nat} {Q : (Option Value ⊕ Nat) → mi_H → Prop} (n sl : Nat) (f : Nat → mi_C) {l1 : Nat} {l2 : Int32} {l3 : Int32} {l4 : Int64} {o5 : Option Value} {o6 : Option Value} {o7 : Option Value} (h8 : mi_W d 61 0 (mi_en 1 [.int l3]) [] (n, sl, f) (mi_Kc d 59 8 [some (.ref l1), some (.int l2), some (.int l3), some (.long l4), none, o5, o6, o7] [] Q)) : mi_W (d + 1) 59 7 [some (.ref l1), some (.int l2), some (.int l3), some (.long l4), none, o5, o6, o7] [] (n, sl, f) Q := by
  refine w_iload_n cd_59_7 rfl ?_
  exact w_invokestatic cd_59_8 (show mt_m 0 118 = some (61, 4) by decide +kernel) (by decide) (rest := []) rfl (as := [.int l3]) rfl ⟨Nat.le_of_ble_eq_true rfl, Nat.le_of_ble_eq_true rfl, Nat.le_of_ble_eq_true rfl⟩ h8
theorem b_59_11 {d : Nat} {Q : (Option Value ⊕ Nat) → mi_H → Prop} (n sl : Nat) (f : Nat → mi_C) {l1 : Nat} {l2 : Int32} {l3 : Int32} {l4 : Int64} {o5 : Option Value} {o6 : Option Value} {o7 : Option Value} {s8 : Int32} (h9 : s8 = (0 : Int32) → mi_W d 59 28 [some (.ref l1), some (.int l2), some (.int l3), some (.long l4), none, o5, o6, o7] [] (n, sl, f) Q) (h10 : ¬ (s8 = (0 : Int32)) → mi_W d 59 14 [some (.ref l1), some (.int l2), some (.int l3), some (.long l4), none, o5, o6, o7] [] (n, sl, f) Q) : mi_W d 59 11 [some (.ref l1), some (.int l2), some (.int l3), some (.long l4), none, o5, o6, o7] [.int s8] (n, sl, f) Q := by
  exact w_ifeq cd_59_11 (by decide) h9 h10
theorem b_59_14 {d : Nat} {Q : (Option Value ⊕ Nat) → mi_H → Prop} (n sl : Nat) (f : Nat → mi_C) {l1 : Nat} {l2 : Int32} {l3 : Int32} {l4 : Int64} {o5 : Option Value} {o6 : Option Value} {o7 : Option Value} (h8 : (lg_cmp l4 0) < (0 : Int32) → mi_W d 59 28 [some (.ref l1), some (.int l2), some (.int l3), some (.long l4), none, o5, o6, o7] [] (n, sl, f) Q) (h9 : ¬ ((lg_cmp l4 0) < (0 : Int32)) → mi_W d 59 20 [some (.ref l1), some (.int l2), some (.int l3), some (.long l4), none, o5, o6, o7] [] (n, sl, f) Q) : mi_W d 59 14 [some (.ref l1), some (.int l2), some (.int l3), some (.long l4), none, o5, o6, o7] [] (n, sl, f) Q := by
  refine w_lload_n cd_59_14 rfl ?_
  refine w_lconst (lv := 0) cd_59_15 (by decide) ?_
  refine w_lcmp cd_59_16 ?_
  exact w_iflt cd_59_17 (by decide) h8 h9
theorem b_59_20 {d : Nat} {Q : (Option Value ⊕ Nat) → mi_H → Prop} (n sl : Nat) (f : Nat → mi_C) {l1 : Nat} {l2 : Int32} {l3 : Int32} {l4 : Int64} {o5 : Option Value} {o6 : Option Value} {o7 : Option Value} (h8 : (lg_cmp l4 2305843009213693952) ≤ (0 : Int32) → mi_W d 59 38 [some (.ref l1), some (.int l2), some (.int l3), some (.long l4), none, o5, o6, o7] [] (n, sl, f) Q) (h9 : ¬ ((lg_cmp l4 2305843009213693952) ≤ (0 : Int32)) → mi_W d 59 28 [some (.ref l1), some (.int l2), some (.int l3), some (.long l4), none, o5, o6, o7] [] (n, sl, f) Q) : mi_W d 59 20 [some (.ref l1), some (.int l2), some (.int l3), some (.long l4), none, o5, o6, o7] [] (n, sl, f) Q := by
  refine w_lload_n cd_59_20 rfl ?_
  refine w_ldc2_w (lv := 2305843009213693952) cd_59_21 (by decide +kernel) ?_
  refine w_lcmp cd_59_24 ?_
  exact w_ifle cd_59_25 (by decide) h8 h9
theorem b_59_28 {d : Nat} {Q : (Option Value ⊕ Nat) → mi_H → Prop} (n sl : Nat) (f : Nat → mi_C) {l1 : Nat} {l2 : Int32} {l3 : Int32} {l4 : Int64} {o5 : Option Value} {o6 : Option Value} {o7 : Option Value} {h' : mi_H} (h8 : mi_t 59 28 (.new 123) [] (n, sl, f) = some h') (h9 : Q (.inr n) h') : mi_W d 59 28 [some (.ref l1), some (.int l2), some (.int l3), some (.long l4), none, o5, o6, o7] [] (n, sl, f) Q := by
  exact w_throw cd_59_28 (show mt_c 0 123 = some 15 by decide +kernel) (by decide) h8 h9
theorem b_59_38 {d : Nat} {Q : (Option Value ⊕ Nat) → mi_H → Prop} (n sl : Nat) (f : Nat → mi_C) {l1 : Nat} {l2 : Int32} {l3 : Int32} {l4 : Int64} {o5 : Option Value} {o6 : Option Value} {o7 : Option Value} {fs8 : List Value} {x11 : Nat} {fs13 : List Value} {x16 : Nat} (m18 i18 : Nat) (g18 : Nat → Int64) {fs22 : List Value} {x25 : Nat} {fs27 : List Value} {x30 : Nat} (m32 i32 : Nat) (g32 : Nat → Int64) (h9 : f l1 = .inr (0, fs8)) (h10 : l1 < n) (h12 : fs8[3]? = some (.ref x11)) (h14 : f x11 = .inr (5, fs13)) (h15 : x11 < n) (h17 : fs13[0]? = some (.ref x16)) (h19 : f x16 = .inl (3, m18, .inr (.inl g18))) (h20 : x16 < n) (h21 : mi_ix ((l2 * 4) + l3) m18 i18) (h23 : f l1 = .inr (0, fs22)) (h24 : l1 < n) (h26 : fs22[3]? = some (.ref x25)) (h28 : f x25 = .inr (5, fs27)) (h29 : x25 < n) (h31 : fs27[0]? = some (.ref x30)) (h33 : f x30 = .inl (3, m32, .inr (.inl g32))) (h34 : x30 < n) (h35 : mi_ix ((l2 * 4) + l3) m32 i32) (h36 : Q (.inl (some (.long (g18 i18)))) (n, sl, (va_up f x30 (.inl (3, m32, .inr (.inl (vp_updL g32 i32 l4))))))) : mi_W d 59 38 [some (.ref l1), some (.int l2), some (.int l3), some (.long l4), none, o5, o6, o7] [] (n, sl, f) Q := by
  refine w_iload_n cd_59_38 rfl ?_
  refine w_iconst (v := 4) cd_59_39 (by decide) ?_
  refine w_imul cd_59_40 ?_
  refine w_iload_n cd_59_41 rfl ?_
  refine w_iadd cd_59_42 ?_
  refine w_istore (ls' := [some (.ref l1), some (.int l2), some (.int l3), some (.long l4), none, some (.int ((l2 * 4) + l3)), o6, o7]) cd_59_43 (Nat.le_of_ble_eq_true rfl) rfl ?_
  refine w_aload_n cd_59_45 rfl ?_
  refine w_getfield cd_59_46 (show mt_f 0 35 = some (0, 3) by decide +kernel) h9 h10 h12 ?_
  refine w_getfield cd_59_49 (show mt_f 0 128 = some (5, 0) by decide +kernel) h14 h15 h17 ?_
  refine w_iload cd_59_52 rfl ?_
  refine w_laload cd_59_54 h19 h20 h21 ?_
  refine w_lstore (ls' := [some (.ref l1), some (.int l2), some (.int l3), some (.long l4), none, some (.int ((l2 * 4) + l3)), some (.long (g18 i18)), none]) cd_59_55 (Nat.le_of_ble_eq_true rfl) rfl ?_
  refine w_aload_n cd_59_57 rfl ?_
  refine w_getfield cd_59_58 (show mt_f 0 35 = some (0, 3) by decide +kernel) h23 h24 h26 ?_
  refine w_getfield cd_59_61 (show mt_f 0 128 = some (5, 0) by decide +kernel) h28 h29 h31 ?_
  refine w_iload cd_59_64 rfl ?_
  refine w_lload_n cd_59_66 rfl ?_
  refine w_lastore cd_59_67 h33 h34 h35 ?_
  refine w_lload cd_59_68 rfl ?_
  exact w_lreturn cd_59_70 (by decide +kernel) h36
/-! MarloweHost.isParty(I)Z -/
set_option maxRecDepth 100000 in
theorem mq_60 : mt_q 60 = my_60 := rfl
set_option maxRecDepth 100000 in
theorem ci_60 : mt_inc 0 my_60.cd = true := by decide +kernel
theorem cd_60_0 : mt_cd 60 0 = some (.iload_n 0) := mt_cd_of (q := (0, .iload_n 0, 1)) mq_60 ci_60 (List.mem_of_getElem? (i := 0) rfl)
theorem cd_60_1 : mt_cd 60 1 = some (.ifCond .lt 13) := mt_cd_of (q := (1, .ifCond .lt 13, 3)) mq_60 ci_60 (List.mem_of_getElem? (i := 1) rfl)
theorem cd_60_4 : mt_cd 60 4 = some (.iload_n 0) := mt_cd_of (q := (4, .iload_n 0, 1)) mq_60 ci_60 (List.mem_of_getElem? (i := 2) rfl)
theorem cd_60_5 : mt_cd 60 5 = some (.bipush 8) := mt_cd_of (q := (5, .bipush 8, 2)) mq_60 ci_60 (List.mem_of_getElem? (i := 3) rfl)
theorem cd_60_7 : mt_cd 60 7 = some (.if_icmp .ge 7) := mt_cd_of (q := (7, .if_icmp .ge 7, 3)) mq_60 ci_60 (List.mem_of_getElem? (i := 4) rfl)
theorem cd_60_10 : mt_cd 60 10 = some (.iconst 1) := mt_cd_of (q := (10, .iconst 1, 1)) mq_60 ci_60 (List.mem_of_getElem? (i := 5) rfl)
theorem cd_60_11 : mt_cd 60 11 = some (.goto 4) := mt_cd_of (q := (11, .goto 4, 3)) mq_60 ci_60 (List.mem_of_getElem? (i := 6) rfl)
theorem cd_60_14 : mt_cd 60 14 = some (.iconst 0) := mt_cd_of (q := (14, .iconst 0, 1)) mq_60 ci_60 (List.mem_of_getElem? (i := 7) rfl)
theorem cd_60_15 : mt_cd 60 15 = some (.ireturn) := mt_cd_of (q := (15, .ireturn, 1)) mq_60 ci_60 (List.mem_of_getElem? (i := 8) rfl)
theorem b_60_0 {d : Nat} {Q : (Option Value ⊕ Nat) → mi_H → Prop} (n sl : Nat) (f : Nat → mi_C) {l1 : Int32} (h2 : l1 < (0 : Int32) → mi_W d 60 14 [some (.int l1)] [] (n, sl, f) Q) (h3 : ¬ (l1 < (0 : Int32)) → mi_W d 60 4 [some (.int l1)] [] (n, sl, f) Q) : mi_W d 60 0 [some (.int l1)] [] (n, sl, f) Q := by
  refine w_iload_n cd_60_0 rfl ?_
  exact w_iflt cd_60_1 (by decide) h2 h3
theorem b_60_4 {d : Nat} {Q : (Option Value ⊕ Nat) → mi_H → Prop} (n sl : Nat) (f : Nat → mi_C) {l1 : Int32} (h2 : 8 ≤ l1 → mi_W d 60 14 [some (.int l1)] [] (n, sl, f) Q) (h3 : ¬ (8 ≤ l1) → mi_W d 60 10 [some (.int l1)] [] (n, sl, f) Q) : mi_W d 60 4 [some (.int l1)] [] (n, sl, f) Q := by
  refine w_iload_n cd_60_4 rfl ?_
  refine w_bipush (v := 8) cd_60_5 (by decide) ?_
  exact w_if_icmpge cd_60_7 (by decide) h2 h3
theorem b_60_10 {d : Nat} {Q : (Option Value ⊕ Nat) → mi_H → Prop} (n sl : Nat) (f : Nat → mi_C) {l1 : Int32} (h2 : mi_W d 60 15 [some (.int l1)] [.int 1] (n, sl, f) Q) : mi_W d 60 10 [some (.int l1)] [] (n, sl, f) Q := by
  refine w_iconst (v := 1) cd_60_10 (by decide) ?_
  exact w_goto cd_60_11 (by decide) h2
theorem b_60_14 {d : Nat} {Q : (Option Value ⊕ Nat) → mi_H → Prop} (n sl : Nat) (f : Nat → mi_C) {l1 : Int32} (h2 : mi_W d 60 15 [some (.int l1)] [.int 0] (n, sl, f) Q) : mi_W d 60 14 [some (.int l1)] [] (n, sl, f) Q := by
  refine w_iconst (v := 0) cd_60_14 (by decide) ?_
  exact h2
theorem b_60_15 {d : Nat} {Q : (Option Value ⊕ Nat) → mi_H → Prop} (n sl : Nat) (f : Nat → mi_C) {l1 : Int32} {s2 : Int32} (h3 : s2 = 0 ∨ s2 = 1) (h4 : Q (.inl (some (.int s2))) (n, sl, f)) : mi_W d 60 15 [some (.int l1)] [.int s2] (n, sl, f) Q := by
  exact w_ireturn_z cd_60_15 (by decide +kernel) h3 h4
/-! MarloweHost.isToken(I)Z -/
set_option maxRecDepth 100000 in
theorem mq_61 : mt_q 61 = my_61 := rfl
set_option maxRecDepth 100000 in
theorem ci_61 : mt_inc 0 my_61.cd = true := by decide +kernel
theorem cd_61_0 : mt_cd 61 0 = some (.iload_n 0) := mt_cd_of (q := (0, .iload_n 0, 1)) mq_61 ci_61 (List.mem_of_getElem? (i := 0) rfl)
theorem cd_61_1 : mt_cd 61 1 = some (.ifCond .lt 12) := mt_cd_of (q := (1, .ifCond .lt 12, 3)) mq_61 ci_61 (List.mem_of_getElem? (i := 1) rfl)
theorem cd_61_4 : mt_cd 61 4 = some (.iload_n 0) := mt_cd_of (q := (4, .iload_n 0, 1)) mq_61 ci_61 (List.mem_of_getElem? (i := 2) rfl)
theorem cd_61_5 : mt_cd 61 5 = some (.iconst 4) := mt_cd_of (q := (5, .iconst 4, 1)) mq_61 ci_61 (List.mem_of_getElem? (i := 3) rfl)
theorem cd_61_6 : mt_cd 61 6 = some (.if_icmp .ge 7) := mt_cd_of (q := (6, .if_icmp .ge 7, 3)) mq_61 ci_61 (List.mem_of_getElem? (i := 4) rfl)
theorem cd_61_9 : mt_cd 61 9 = some (.iconst 1) := mt_cd_of (q := (9, .iconst 1, 1)) mq_61 ci_61 (List.mem_of_getElem? (i := 5) rfl)
theorem cd_61_10 : mt_cd 61 10 = some (.goto 4) := mt_cd_of (q := (10, .goto 4, 3)) mq_61 ci_61 (List.mem_of_getElem? (i := 6) rfl)
theorem cd_61_13 : mt_cd 61 13 = some (.iconst 0) := mt_cd_of (q := (13, .iconst 0, 1)) mq_61 ci_61 (List.mem_of_getElem? (i := 7) rfl)
theorem cd_61_14 : mt_cd 61 14 = some (.ireturn) := mt_cd_of (q := (14, .ireturn, 1)) mq_61 ci_61 (List.mem_of_getElem? (i := 8) rfl)
theorem b_61_0 {d : Nat} {Q : (Option Value ⊕ Nat) → mi_H → Prop} (n sl : Nat) (f : Nat → mi_C) {l1 : Int32} (h2 : l1 < (0 : Int32) → mi_W d 61 13 [some (.int l1)] [] (n, sl, f) Q) (h3 : ¬ (l1 < (0 : Int32)) → mi_W d 61 4 [some (.int l1)] [] (n, sl, f) Q) : mi_W d 61 0 [some (.int l1)] [] (n, sl, f) Q := by
  refine w_iload_n cd_61_0 rfl ?_
  exact w_iflt cd_61_1 (by decide) h2 h3
theorem b_61_4 {d : Nat} {Q : (Option Value ⊕ Nat) → mi_H → Prop} (n sl : Nat) (f : Nat → mi_C) {l1 : Int32} (h2 : 4 ≤ l1 → mi_W d 61 13 [some (.int l1)] [] (n, sl, f) Q) (h3 : ¬ (4 ≤ l1) → mi_W d 61 9 [some (.int l1)] [] (n, sl, f) Q) : mi_W d 61 4 [some (.int l1)] [] (n, sl, f) Q := by
  refine w_iload_n cd_61_4 rfl ?_
  refine w_iconst (v := 4) cd_61_5 (by decide) ?_
  exact w_if_icmpge cd_61_6 (by decide) h2 h3
theorem b_61_9 {d : Nat} {Q : (Option Value ⊕ Nat) → mi_H → Prop} (n sl : Nat) (f : Nat → mi_C) {l1 : Int32} (h2 : mi_W d 61 14 [some (.int l1)] [.int 1] (n, sl, f) Q) : mi_W d 61 9 [some (.int l1)] [] (n, sl, f) Q := by
  refine w_iconst (v := 1) cd_61_9 (by decide) ?_
  exact w_goto cd_61_10 (by decide) h2
theorem b_61_13 {d : Nat} {Q : (Option Value ⊕ Nat) → mi_H → Prop} (n sl : Nat) (f : Nat → mi_C) {l1 : Int32} (h2 : mi_W d 61 14 [some (.int l1)] [.int 0] (n, sl, f) Q) : mi_W d 61 13 [some (.int l1)] [] (n, sl, f) Q := by
  refine w_iconst (v := 0) cd_61_13 (by decide) ?_
  exact h2
theorem b_61_14 {d : Nat} {Q : (Option Value ⊕ Nat) → mi_H → Prop} (n sl : Nat) (f : Nat → mi_C) {l1 : Int32} {s2 : Int32} (h3 : s2 = 0 ∨ s2 = 1) (h4 : Q (.inl (some (.int s2))) (n, sl, f)) : mi_W d 61 14 [some (.int l1)] [.int s2] (n, sl, f) Q := by
  exact w_ireturn_z cd_61_14 (by decide +kernel) h3 h4
/-! MarloweHostLaw.deposit(LMarloweHost;IIIJ[J)I -/
set_option maxRecDepth 100000 in
theorem mq_62 : mt_q 62 = my_62 := rfl
set_option maxRecDepth 100000 in
theorem ci_62 : mt_inc 0 my_62.cd = true := by decide +kernel
theorem cd_62_0 : mt_cd 62 0 = some (.aload 6) := mt_cd_of (q := (0, .aload 6, 2)) mq_62 ci_62 (List.mem_of_getElem? (i := 0) rfl)
theorem cd_62_2 : mt_cd 62 2 = some (.iconst 0) := mt_cd_of (q := (2, .iconst 0, 1)) mq_62 ci_62 (List.mem_of_getElem? (i := 1) rfl)
theorem cd_62_3 : mt_cd 62 3 = some (.aload_n 0) := mt_cd_of (q := (3, .aload_n 0, 1)) mq_62 ci_62 (List.mem_of_getElem? (i := 2) rfl)
theorem cd_62_4 : mt_cd 62 4 = some (.iload_n 1) := mt_cd_of (q := (4, .iload_n 1, 1)) mq_62 ci_62 (List.mem_of_getElem? (i := 3) rfl)
theorem cd_62_5 : mt_cd 62 5 = some (.iload_n 2) := mt_cd_of (q := (5, .iload_n 2, 1)) mq_62 ci_62 (List.mem_of_getElem? (i := 4) rfl)
theorem cd_62_6 : mt_cd 62 6 = some (.iload_n 3) := mt_cd_of (q := (6, .iload_n 3, 1)) mq_62 ci_62 (List.mem_of_getElem? (i := 5) rfl)
theorem cd_62_7 : mt_cd 62 7 = some (.lload 4) := mt_cd_of (q := (7, .lload 4, 2)) mq_62 ci_62 (List.mem_of_getElem? (i := 6) rfl)
theorem cd_62_9 : mt_cd 62 9 = some (.invokevirtual 25) := mt_cd_of (q := (9, .invokevirtual 25, 3)) mq_62 ci_62 (List.mem_of_getElem? (i := 7) rfl)
theorem cd_62_12 : mt_cd 62 12 = some (.i2l) := mt_cd_of (q := (12, .i2l, 1)) mq_62 ci_62 (List.mem_of_getElem? (i := 8) rfl)
theorem cd_62_13 : mt_cd 62 13 = some (.lastore) := mt_cd_of (q := (13, .lastore, 1)) mq_62 ci_62 (List.mem_of_getElem? (i := 9) rfl)
theorem cd_62_14 : mt_cd 62 14 = some (.goto 11) := mt_cd_of (q := (14, .goto 11, 3)) mq_62 ci_62 (List.mem_of_getElem? (i := 10) rfl)
theorem cd_62_17 : mt_cd 62 17 = some (.astore 7) := mt_cd_of (q := (17, .astore 7, 2)) mq_62 ci_62 (List.mem_of_getElem? (i := 11) rfl)
theorem cd_62_19 : mt_cd 62 19 = some (.iconst 1) := mt_cd_of (q := (19, .iconst 1, 1)) mq_62 ci_62 (List.mem_of_getElem? (i := 12) rfl)
theorem cd_62_20 : mt_cd 62 20 = some (.ireturn) := mt_cd_of (q := (20, .ireturn, 1)) mq_62 ci_62 (List.mem_of_getElem? (i := 13) rfl)
theorem cd_62_21 : mt_cd 62 21 = some (.astore 7) := mt_cd_of (q := (21, .astore 7, 2)) mq_62 ci_62 (List.mem_of_getElem? (i := 14) rfl)
theorem cd_62_23 : mt_cd 62 23 = some (.iconst 2) := mt_cd_of (q := (23, .iconst 2, 1)) mq_62 ci_62 (List.mem_of_getElem? (i := 15) rfl)
theorem cd_62_24 : mt_cd 62 24 = some (.ireturn) := mt_cd_of (q := (24, .ireturn, 1)) mq_62 ci_62 (List.mem_of_getElem? (i := 16) rfl)
theorem cd_62_25 : mt_cd 62 25 = some (.iconst 0) := mt_cd_of (q := (25, .iconst 0, 1)) mq_62 ci_62 (List.mem_of_getElem? (i := 17) rfl)
theorem cd_62_26 : mt_cd 62 26 = some (.ireturn) := mt_cd_of (q := (26, .ireturn, 1)) mq_62 ci_62 (List.mem_of_getElem? (i := 18) rfl)
theorem b_62_0 {d : Nat} {Q : (Option Value ⊕ Nat) → mi_H → Prop} (n sl : Nat) (f : Nat → mi_C) {l1 : Nat} {l2 : Int32} {l3 : Int32} {l4 : Int32} {l5 : Int64} {l6 : Nat} {o7 : Option Value} {fs8 : List Value} (h9 : f l1 = .inr (0, fs8)) (h10 : l1 < n) (h11 : mi_W d 63 0 (mi_en 6 [.ref l1, .int l2, .int l3, .int l4, .long l5]) [] (n, sl, f) (mi_Kc d 62 9 [some (.ref l1), some (.int l2), some (.int l3), some (.int l4), some (.long l5), none, some (.ref l6), o7] [.int 0, .ref l6] Q)) : mi_W (d + 1) 62 0 [some (.ref l1), some (.int l2), some (.int l3), some (.int l4), some (.long l5), none, some (.ref l6), o7] [] (n, sl, f) Q := by
  refine w_aload cd_62_0 rfl ?_
  refine w_iconst (v := 0) cd_62_2 (by decide) ?_
  refine w_aload_n cd_62_3 rfl ?_
  refine w_iload_n cd_62_4 rfl ?_
  refine w_iload_n cd_62_5 rfl ?_
  refine w_iload_n cd_62_6 rfl ?_
  refine w_lload cd_62_7 rfl ?_
  exact w_invokevirtual cd_62_9 (show mt_m 18 25 = some (63, 0) by decide +kernel) (rest := [.int 0, .ref l6]) rfl (as := [.ref l1, .int l2, .int l3, .int l4, .long l5]) rfl h9 (Or.inl h10) ⟨Nat.le_of_ble_eq_true rfl, Nat.le_of_ble_eq_true rfl, Nat.le_of_ble_eq_true rfl⟩ h11
theorem b_62_12 {d : Nat} {Q : (Option Value ⊕ Nat) → mi_H → Prop} (n sl : Nat) (f : Nat → mi_C) {l1 : Nat} {l2 : Int32} {l3 : Int32} {l4 : Int32} {l5 : Int64} {l6 : Nat} {o7 : Option Value} {s8 : Int32} {s9 : Int32} {s10 : Nat} (m11 i11 : Nat) (g11 : Nat → Int64) (h12 : f s10 = .inl (3, m11, .inr (.inl g11))) (h13 : s10 < n) (h14 : mi_ix s9 m11 i11) (h15 : mi_W d 62 25 [some (.ref l1), some (.int l2), some (.int l3), some (.int l4), some (.long l5), none, some (.ref l6), o7] [] (n, sl, (va_up f s10 (.inl (3, m11, .inr (.inl (vp_updL g11 i11 ((s8 : Int32).toInt64))))))) Q) : mi_W d 62 12 [some (.ref l1), some (.int l2), some (.int l3), some (.int l4), some (.long l5), none, some (.ref l6), o7] [.int s8, .int s9, .ref s10] (n, sl, f) Q := by
  refine w_i2l cd_62_12 ?_
  refine w_lastore cd_62_13 h12 h13 h14 ?_
  exact w_goto cd_62_14 (by decide) h15
theorem b_62_17 {d : Nat} {Q : (Option Value ⊕ Nat) → mi_H → Prop} (n sl : Nat) (f : Nat → mi_C) {l1 : Nat} {l2 : Int32} {l3 : Int32} {l4 : Int32} {l5 : Int64} {l6 : Nat} {o7 : Option Value} {s8 : Nat} (h9 : Q (.inl (some (.int 1))) (n, sl, f)) : mi_W d 62 17 [some (.ref l1), some (.int l2), some (.int l3), some (.int l4), some (.long l5), none, some (.ref l6), o7] [.ref s8] (n, sl, f) Q := by
  refine w_astore (ls' := [some (.ref l1), some (.int l2), some (.int l3), some (.int l4), some (.long l5), none, some (.ref l6), some (.ref s8)]) cd_62_17 (Nat.le_of_ble_eq_true rfl) rfl ?_
  refine w_iconst (v := 1) cd_62_19 (by decide) ?_
  exact w_ireturn_i cd_62_20 (by decide +kernel) h9
theorem b_62_21 {d : Nat} {Q : (Option Value ⊕ Nat) → mi_H → Prop} (n sl : Nat) (f : Nat → mi_C) {l1 : Nat} {l2 : Int32} {l3 : Int32} {l4 : Int32} {l5 : Int64} {l6 : Nat} {o7 : Option Value} {s8 : Nat} (h9 : Q (.inl (some (.int 2))) (n, sl, f)) : mi_W d 62 21 [some (.ref l1), some (.int l2), some (.int l3), some (.int l4), some (.long l5), none, some (.ref l6), o7] [.ref s8] (n, sl, f) Q := by
  refine w_astore (ls' := [some (.ref l1), some (.int l2), some (.int l3), some (.int l4), some (.long l5), none, some (.ref l6), some (.ref s8)]) cd_62_21 (Nat.le_of_ble_eq_true rfl) rfl ?_
  refine w_iconst (v := 2) cd_62_23 (by decide) ?_
  exact w_ireturn_i cd_62_24 (by decide +kernel) h9
theorem b_62_25 {d : Nat} {Q : (Option Value ⊕ Nat) → mi_H → Prop} (n sl : Nat) (f : Nat → mi_C) {l1 : Nat} {l2 : Int32} {l3 : Int32} {l4 : Int32} {l5 : Int64} {l6 : Nat} {o7 : Option Value} (h8 : Q (.inl (some (.int 0))) (n, sl, f)) : mi_W d 62 25 [some (.ref l1), some (.int l2), some (.int l3), some (.int l4), some (.long l5), none, some (.ref l6), o7] [] (n, sl, f) Q := by
  refine w_iconst (v := 0) cd_62_25 (by decide) ?_
  exact w_ireturn_i cd_62_26 (by decide +kernel) h8
/-! MarloweHost.deposit(IIIJ)I -/
set_option maxRecDepth 100000 in
theorem mq_63 : mt_q 63 = my_63 := rfl
set_option maxRecDepth 100000 in
theorem ci_63 : mt_inc 0 my_63.cd = true := by decide +kernel
theorem cd_63_0 : mt_cd 63 0 = some (.iload_n 1) := mt_cd_of (q := (0, .iload_n 1, 1)) mq_63 ci_63 (List.mem_of_getElem? (i := 0) rfl)
theorem cd_63_1 : mt_cd 63 1 = some (.invokestatic 114) := mt_cd_of (q := (1, .invokestatic 114, 3)) mq_63 ci_63 (List.mem_of_getElem? (i := 1) rfl)
theorem cd_63_4 : mt_cd 63 4 = some (.ifCond .eq 17) := mt_cd_of (q := (4, .ifCond .eq 17, 3)) mq_63 ci_63 (List.mem_of_getElem? (i := 2) rfl)
theorem cd_63_7 : mt_cd 63 7 = some (.iload_n 2) := mt_cd_of (q := (7, .iload_n 2, 1)) mq_63 ci_63 (List.mem_of_getElem? (i := 3) rfl)
theorem cd_63_8 : mt_cd 63 8 = some (.invokestatic 114) := mt_cd_of (q := (8, .invokestatic 114, 3)) mq_63 ci_63 (List.mem_of_getElem? (i := 4) rfl)
theorem cd_63_11 : mt_cd 63 11 = some (.ifCond .eq 10) := mt_cd_of (q := (11, .ifCond .eq 10, 3)) mq_63 ci_63 (List.mem_of_getElem? (i := 5) rfl)
theorem cd_63_14 : mt_cd 63 14 = some (.iload_n 3) := mt_cd_of (q := (14, .iload_n 3, 1)) mq_63 ci_63 (List.mem_of_getElem? (i := 6) rfl)
theorem cd_63_15 : mt_cd 63 15 = some (.invokestatic 118) := mt_cd_of (q := (15, .invokestatic 118, 3)) mq_63 ci_63 (List.mem_of_getElem? (i := 7) rfl)
theorem cd_63_18 : mt_cd 63 18 = some (.ifCond .ne 13) := mt_cd_of (q := (18, .ifCond .ne 13, 3)) mq_63 ci_63 (List.mem_of_getElem? (i := 8) rfl)
theorem cd_63_21 : mt_cd 63 21 = some (.new 123) := mt_cd_of (q := (21, .new 123, 3)) mq_63 ci_63 (List.mem_of_getElem? (i := 9) rfl)
theorem cd_63_24 : mt_cd 63 24 = some (.dup) := mt_cd_of (q := (24, .dup, 1)) mq_63 ci_63 (List.mem_of_getElem? (i := 10) rfl)
theorem cd_63_25 : mt_cd 63 25 = some (.ldc 132) := mt_cd_of (q := (25, .ldc 132, 2)) mq_63 ci_63 (List.mem_of_getElem? (i := 11) rfl)
theorem cd_63_27 : mt_cd 63 27 = some (.invokespecial 127) := mt_cd_of (q := (27, .invokespecial 127, 3)) mq_63 ci_63 (List.mem_of_getElem? (i := 12) rfl)
theorem cd_63_30 : mt_cd 63 30 = some (.athrow) := mt_cd_of (q := (30, .athrow, 1)) mq_63 ci_63 (List.mem_of_getElem? (i := 13) rfl)
theorem cd_63_31 : mt_cd 63 31 = some (.aload_n 0) := mt_cd_of (q := (31, .aload_n 0, 1)) mq_63 ci_63 (List.mem_of_getElem? (i := 14) rfl)
theorem cd_63_32 : mt_cd 63 32 = some (.invokevirtual 134) := mt_cd_of (q := (32, .invokevirtual 134, 3)) mq_63 ci_63 (List.mem_of_getElem? (i := 15) rfl)
theorem cd_63_35 : mt_cd 63 35 = some (.aload_n 0) := mt_cd_of (q := (35, .aload_n 0, 1)) mq_63 ci_63 (List.mem_of_getElem? (i := 16) rfl)
theorem cd_63_36 : mt_cd 63 36 = some (.getfield 42) := mt_cd_of (q := (36, .getfield 42, 3)) mq_63 ci_63 (List.mem_of_getElem? (i := 17) rfl)
theorem cd_63_39 : mt_cd 63 39 = some (.bipush 8) := mt_cd_of (q := (39, .bipush 8, 2)) mq_63 ci_63 (List.mem_of_getElem? (i := 18) rfl)
theorem cd_63_41 : mt_cd 63 41 = some (.iload_n 1) := mt_cd_of (q := (41, .iload_n 1, 1)) mq_63 ci_63 (List.mem_of_getElem? (i := 19) rfl)
theorem cd_63_42 : mt_cd 63 42 = some (.iload_n 2) := mt_cd_of (q := (42, .iload_n 2, 1)) mq_63 ci_63 (List.mem_of_getElem? (i := 20) rfl)
theorem cd_63_43 : mt_cd 63 43 = some (.iload_n 3) := mt_cd_of (q := (43, .iload_n 3, 1)) mq_63 ci_63 (List.mem_of_getElem? (i := 21) rfl)
theorem cd_63_44 : mt_cd 63 44 = some (.lload 4) := mt_cd_of (q := (44, .lload 4, 2)) mq_63 ci_63 (List.mem_of_getElem? (i := 22) rfl)
theorem cd_63_46 : mt_cd 63 46 = some (.invokevirtual 137) := mt_cd_of (q := (46, .invokevirtual 137, 3)) mq_63 ci_63 (List.mem_of_getElem? (i := 23) rfl)
theorem cd_63_49 : mt_cd 63 49 = some (.ireturn) := mt_cd_of (q := (49, .ireturn, 1)) mq_63 ci_63 (List.mem_of_getElem? (i := 24) rfl)
theorem b_63_0 {d : Nat} {Q : (Option Value ⊕ Nat) → mi_H → Prop} (n sl : Nat) (f : Nat → mi_C) {l1 : Nat} {l2 : Int32} {l3 : Int32} {l4 : Int32} {l5 : Int64} (h6 : mi_W d 60 0 (mi_en 1 [.int l2]) [] (n, sl, f) (mi_Kc d 63 1 [some (.ref l1), some (.int l2), some (.int l3), some (.int l4), some (.long l5), none] [] Q)) : mi_W (d + 1) 63 0 [some (.ref l1), some (.int l2), some (.int l3), some (.int l4), some (.long l5), none] [] (n, sl, f) Q := by
  refine w_iload_n cd_63_0 rfl ?_
  exact w_invokestatic cd_63_1 (show mt_m 0 114 = some (60, 4) by decide +kernel) (by decide) (rest := []) rfl (as := [.int l2]) rfl ⟨Nat.le_of_ble_eq_true rfl, Nat.le_of_ble_eq_true rfl, Nat.le_of_ble_eq_true rfl⟩ h6
theorem b_63_4 {d : Nat} {Q : (Option Value ⊕ Nat) → mi_H → Prop} (n sl : Nat) (f : Nat → mi_C) {l1 : Nat} {l2 : Int32} {l3 : Int32} {l4 : Int32} {l5 : Int64} {s6 : Int32} (h7 : s6 = (0 : Int32) → mi_W d 63 21 [some (.ref l1), some (.int l2), some (.int l3), some (.int l4), some (.long l5), none] [] (n, sl, f) Q) (h8 : ¬ (s6 = (0 : Int32)) → mi_W d 63 7 [some (.ref l1), some (.int l2), some (.int l3), some (.int l4), some (.long l5), none] [] (n, sl, f) Q) : mi_W d 63 4 [some (.ref l1), some (.int l2), some (.int l3), some (.int l4), some (.long l5), none] [.int s6] (n, sl, f) Q := by
  exact w_ifeq cd_63_4 (by decide) h7 h8
theorem b_63_7 {d : Nat} {Q : (Option Value ⊕ Nat) → mi_H → Prop} (n sl : Nat) (f : Nat → mi_C) {l1 : Nat} {l2 : Int32} {l3 : Int32} {l4 : Int32} {l5 : Int64} (h6 : mi_W d 60 0 (mi_en 1 [.int l3]) [] (n, sl, f) (mi_Kc d 63 8 [some (.ref l1), some (.int l2), some (.int l3), some (.int l4), some (.long l5), none] [] Q)) : mi_W (d + 1) 63 7 [some (.ref l1), some (.int l2), some (.int l3), some (.int l4), some (.long l5), none] [] (n, sl, f) Q := by
  refine w_iload_n cd_63_7 rfl ?_
  exact w_invokestatic cd_63_8 (show mt_m 0 114 = some (60, 4) by decide +kernel) (by decide) (rest := []) rfl (as := [.int l3]) rfl ⟨Nat.le_of_ble_eq_true rfl, Nat.le_of_ble_eq_true rfl, Nat.le_of_ble_eq_true rfl⟩ h6
theorem b_63_11 {d : Nat} {Q : (Option Value ⊕ Nat) → mi_H → Prop} (n sl : Nat) (f : Nat → mi_C) {l1 : Nat} {l2 : Int32} {l3 : Int32} {l4 : Int32} {l5 : Int64} {s6 : Int32} (h7 : s6 = (0 : Int32) → mi_W d 63 21 [some (.ref l1), some (.int l2), some (.int l3), some (.int l4), some (.long l5), none] [] (n, sl, f) Q) (h8 : ¬ (s6 = (0 : Int32)) → mi_W d 63 14 [some (.ref l1), some (.int l2), some (.int l3), some (.int l4), some (.long l5), none] [] (n, sl, f) Q) : mi_W d 63 11 [some (.ref l1), some (.int l2), some (.int l3), some (.int l4), some (.long l5), none] [.int s6] (n, sl, f) Q := by
  exact w_ifeq cd_63_11 (by decide) h7 h8
theorem b_63_14 {d : Nat} {Q : (Option Value ⊕ Nat) → mi_H → Prop} (n sl : Nat) (f : Nat → mi_C) {l1 : Nat} {l2 : Int32} {l3 : Int32} {l4 : Int32} {l5 : Int64} (h6 : mi_W d 61 0 (mi_en 1 [.int l4]) [] (n, sl, f) (mi_Kc d 63 15 [some (.ref l1), some (.int l2), some (.int l3), some (.int l4), some (.long l5), none] [] Q)) : mi_W (d + 1) 63 14 [some (.ref l1), some (.int l2), some (.int l3), some (.int l4), some (.long l5), none] [] (n, sl, f) Q := by
  refine w_iload_n cd_63_14 rfl ?_
  exact w_invokestatic cd_63_15 (show mt_m 0 118 = some (61, 4) by decide +kernel) (by decide) (rest := []) rfl (as := [.int l4]) rfl ⟨Nat.le_of_ble_eq_true rfl, Nat.le_of_ble_eq_true rfl, Nat.le_of_ble_eq_true rfl⟩ h6
theorem b_63_18 {d : Nat} {Q : (Option Value ⊕ Nat) → mi_H → Prop} (n sl : Nat) (f : Nat → mi_C) {l1 : Nat} {l2 : Int32} {l3 : Int32} {l4 : Int32} {l5 : Int64} {s6 : Int32} (h7 : ¬ s6 = (0 : Int32) → mi_W d 63 31 [some (.ref l1), some (.int l2), some (.int l3), some (.int l4), some (.long l5), none] [] (n, sl, f) Q) (h8 : ¬ (¬ s6 = (0 : Int32)) → mi_W d 63 21 [some (.ref l1), some (.int l2), some (.int l3), some (.int l4), some (.long l5), none] [] (n, sl, f) Q) : mi_W d 63 18 [some (.ref l1), some (.int l2), some (.int l3), some (.int l4), some (.long l5), none] [.int s6] (n, sl, f) Q := by
  exact w_ifne cd_63_18 (by decide) h7 h8
theorem b_63_21 {d : Nat} {Q : (Option Value ⊕ Nat) → mi_H → Prop} (n sl : Nat) (f : Nat → mi_C) {l1 : Nat} {l2 : Int32} {l3 : Int32} {l4 : Int32} {l5 : Int64} {h' : mi_H} (h6 : mi_t 63 21 (.new 123) [] (n, sl, f) = some h') (h7 : Q (.inr n) h') : mi_W d 63 21 [some (.ref l1), some (.int l2), some (.int l3), some (.int l4), some (.long l5), none] [] (n, sl, f) Q := by
  exact w_throw cd_63_21 (show mt_c 0 123 = some 15 by decide +kernel) (by decide) h6 h7
theorem b_63_31 {d : Nat} {Q : (Option Value ⊕ Nat) → mi_H → Prop} (n sl : Nat) (f : Nat → mi_C) {l1 : Nat} {l2 : Int32} {l3 : Int32} {l4 : Int32} {l5 : Int64} {fs6 : List Value} (h7 : f l1 = .inr (0, fs6)) (h8 : l1 < n) (h9 : mi_W d 64 0 (mi_en 1 [.ref l1]) [] (n, sl, f) (mi_Kc d 63 32 [some (.ref l1), some (.int l2), some (.int l3), some (.int l4), some (.long l5), none] [] Q)) : mi_W (d + 1) 63 31 [some (.ref l1), some (.int l2), some (.int l3), some (.int l4), some (.long l5), none] [] (n, sl, f) Q := by
  refine w_aload_n cd_63_31 rfl ?_
  exact w_invokevirtual cd_63_32 (show mt_m 0 134 = some (64, 0) by decide +kernel) (rest := []) rfl (as := [.ref l1]) rfl h7 (Or.inl h8) ⟨Nat.le_of_ble_eq_true rfl, Nat.le_of_ble_eq_true rfl, Nat.le_of_ble_eq_true rfl⟩ h9
theorem b_63_35 {d : Nat} {Q : (Option Value ⊕ Nat) → mi_H → Prop} (n sl : Nat) (f : Nat → mi_C) {l1 : Nat} {l2 : Int32} {l3 : Int32} {l4 : Int32} {l5 : Int64} {fs6 : List Value} {x9 : Nat} {fs11 : List Value} (h7 : f l1 = .inr (0, fs6)) (h8 : l1 < n) (h10 : fs6[4]? = some (.ref x9)) (h12 : f x9 = .inr (6, fs11)) (h13 : x9 < n) (h14 : mi_W d 65 0 (mi_en 7 [.ref x9, .int 8, .int l2, .int l3, .int l4, .long l5]) [] (n, sl, f) (mi_Kc d 63 46 [some (.ref l1), some (.int l2), some (.int l3), some (.int l4), some (.long l5), none] [] Q)) : mi_W (d + 1) 63 35 [some (.ref l1), some (.int l2), some (.int l3), some (.int l4), some (.long l5), none] [] (n, sl, f) Q := by
  refine w_aload_n cd_63_35 rfl ?_
  refine w_getfield cd_63_36 (show mt_f 0 42 = some (0, 4) by decide +kernel) h7 h8 h10 ?_
  refine w_bipush (v := 8) cd_63_39 (by decide) ?_
  refine w_iload_n cd_63_41 rfl ?_
  refine w_iload_n cd_63_42 rfl ?_
  refine w_iload_n cd_63_43 rfl ?_
  refine w_lload cd_63_44 rfl ?_
  exact w_invokevirtual cd_63_46 (show mt_m 0 137 = some (65, 0) by decide +kernel) (rest := []) rfl (as := [.ref x9, .int 8, .int l2, .int l3, .int l4, .long l5]) rfl h12 (Or.inl h13) ⟨Nat.le_of_ble_eq_true rfl, Nat.le_of_ble_eq_true rfl, Nat.le_of_ble_eq_true rfl⟩ h14
theorem b_63_49 {d : Nat} {Q : (Option Value ⊕ Nat) → mi_H → Prop} (n sl : Nat) (f : Nat → mi_C) {l1 : Nat} {l2 : Int32} {l3 : Int32} {l4 : Int32} {l5 : Int64} {s6 : Int32} (h7 : Q (.inl (some (.int s6))) (n, sl, f)) : mi_W d 63 49 [some (.ref l1), some (.int l2), some (.int l3), some (.int l4), some (.long l5), none] [.int s6] (n, sl, f) Q := by
  exact w_ireturn_i cd_63_49 (by decide +kernel) h7
/-! MarloweHost.requireRoomForInput()V -/
set_option maxRecDepth 100000 in
theorem mq_64 : mt_q 64 = my_64 := rfl
set_option maxRecDepth 100000 in
theorem ci_64 : mt_inc 0 my_64.cd = true := by decide +kernel
theorem cd_64_0 : mt_cd 64 0 = some (.aload_n 0) := mt_cd_of (q := (0, .aload_n 0, 1)) mq_64 ci_64 (List.mem_of_getElem? (i := 0) rfl)
theorem cd_64_1 : mt_cd 64 1 = some (.getfield 42) := mt_cd_of (q := (1, .getfield 42, 3)) mq_64 ci_64 (List.mem_of_getElem? (i := 1) rfl)
theorem cd_64_4 : mt_cd 64 4 = some (.getfield 91) := mt_cd_of (q := (4, .getfield 91, 3)) mq_64 ci_64 (List.mem_of_getElem? (i := 2) rfl)
theorem cd_64_7 : mt_cd 64 7 = some (.bipush 16) := mt_cd_of (q := (7, .bipush 16, 2)) mq_64 ci_64 (List.mem_of_getElem? (i := 3) rfl)
theorem cd_64_9 : mt_cd 64 9 = some (.if_icmp .lt 14) := mt_cd_of (q := (9, .if_icmp .lt 14, 3)) mq_64 ci_64 (List.mem_of_getElem? (i := 4) rfl)
theorem cd_64_12 : mt_cd 64 12 = some (.new 78) := mt_cd_of (q := (12, .new 78, 3)) mq_64 ci_64 (List.mem_of_getElem? (i := 5) rfl)
theorem cd_64_15 : mt_cd 64 15 = some (.dup) := mt_cd_of (q := (15, .dup, 1)) mq_64 ci_64 (List.mem_of_getElem? (i := 6) rfl)
theorem cd_64_16 : mt_cd 64 16 = some (.ldc_w 258) := mt_cd_of (q := (16, .ldc_w 258, 3)) mq_64 ci_64 (List.mem_of_getElem? (i := 7) rfl)
theorem cd_64_19 : mt_cd 64 19 = some (.invokespecial 82) := mt_cd_of (q := (19, .invokespecial 82, 3)) mq_64 ci_64 (List.mem_of_getElem? (i := 8) rfl)
theorem cd_64_22 : mt_cd 64 22 = some (.athrow) := mt_cd_of (q := (22, .athrow, 1)) mq_64 ci_64 (List.mem_of_getElem? (i := 9) rfl)
theorem cd_64_23 : mt_cd 64 23 = some (.return_) := mt_cd_of (q := (23, .return_, 1)) mq_64 ci_64 (List.mem_of_getElem? (i := 10) rfl)
theorem b_64_0 {d : Nat} {Q : (Option Value ⊕ Nat) → mi_H → Prop} (n sl : Nat) (f : Nat → mi_C) {l1 : Nat} {fs2 : List Value} {x5 : Nat} {fs7 : List Value} {x10 : Int32} (h3 : f l1 = .inr (0, fs2)) (h4 : l1 < n) (h6 : fs2[4]? = some (.ref x5)) (h8 : f x5 = .inr (6, fs7)) (h9 : x5 < n) (h11 : fs7[5]? = some (.int x10)) (h12 : x10 < 16 → mi_W d 64 23 [some (.ref l1)] [] (n, sl, f) Q) (h13 : ¬ (x10 < 16) → mi_W d 64 12 [some (.ref l1)] [] (n, sl, f) Q) : mi_W d 64 0 [some (.ref l1)] [] (n, sl, f) Q := by
  refine w_aload_n cd_64_0 rfl ?_
  refine w_getfield cd_64_1 (show mt_f 0 42 = some (0, 4) by decide +kernel) h3 h4 h6 ?_
  refine w_getfield cd_64_4 (show mt_f 0 91 = some (6, 5) by decide +kernel) h8 h9 h11 ?_
  refine w_bipush (v := 16) cd_64_7 (by decide) ?_
  exact w_if_icmplt cd_64_9 (by decide) h12 h13
theorem b_64_12 {d : Nat} {Q : (Option Value ⊕ Nat) → mi_H → Prop} (n sl : Nat) (f : Nat → mi_C) {l1 : Nat} {h' : mi_H} (h2 : mi_t 64 12 (.new 78) [] (n, sl, f) = some h') (h3 : Q (.inr n) h') : mi_W d 64 12 [some (.ref l1)] [] (n, sl, f) Q := by
  exact w_throw cd_64_12 (show mt_c 0 78 = some 14 by decide +kernel) (by decide) h2 h3
theorem b_64_23 {d : Nat} {Q : (Option Value ⊕ Nat) → mi_H → Prop} (n sl : Nat) (f : Nat → mi_C) {l1 : Nat} (h2 : Q (.inl none) (n, sl, f)) : mi_W d 64 23 [some (.ref l1)] [] (n, sl, f) Q := by
  exact w_return cd_64_23 (by decide +kernel) h2
/-! MarloweHost$Inputs.add(IIIIJ)I -/
set_option maxRecDepth 100000 in
theorem mq_65 : mt_q 65 = my_65 := rfl
set_option maxRecDepth 100000 in
theorem ci_65 : mt_inc 0 my_65.cd = true := by decide +kernel
theorem cd_65_0 : mt_cd 65 0 = some (.aload_n 0) := mt_cd_of (q := (0, .aload_n 0, 1)) mq_65 ci_65 (List.mem_of_getElem? (i := 0) rfl)
theorem cd_65_1 : mt_cd 65 1 = some (.getfield 28) := mt_cd_of (q := (1, .getfield 28, 3)) mq_65 ci_65 (List.mem_of_getElem? (i := 1) rfl)
theorem cd_65_4 : mt_cd 65 4 = some (.ifCond .lt 74) := mt_cd_of (q := (4, .ifCond .lt 74, 3)) mq_65 ci_65 (List.mem_of_getElem? (i := 2) rfl)
theorem cd_65_7 : mt_cd 65 7 = some (.aload_n 0) := mt_cd_of (q := (7, .aload_n 0, 1)) mq_65 ci_65 (List.mem_of_getElem? (i := 3) rfl)
theorem cd_65_8 : mt_cd 65 8 = some (.getfield 28) := mt_cd_of (q := (8, .getfield 28, 3)) mq_65 ci_65 (List.mem_of_getElem? (i := 4) rfl)
theorem cd_65_11 : mt_cd 65 11 = some (.bipush 16) := mt_cd_of (q := (11, .bipush 16, 2)) mq_65 ci_65 (List.mem_of_getElem? (i := 5) rfl)
theorem cd_65_13 : mt_cd 65 13 = some (.if_icmp .ge 65) := mt_cd_of (q := (13, .if_icmp .ge 65, 3)) mq_65 ci_65 (List.mem_of_getElem? (i := 6) rfl)
theorem cd_65_16 : mt_cd 65 16 = some (.aload_n 0) := mt_cd_of (q := (16, .aload_n 0, 1)) mq_65 ci_65 (List.mem_of_getElem? (i := 7) rfl)
theorem cd_65_17 : mt_cd 65 17 = some (.getfield 9) := mt_cd_of (q := (17, .getfield 9, 3)) mq_65 ci_65 (List.mem_of_getElem? (i := 8) rfl)
theorem cd_65_20 : mt_cd 65 20 = some (.aload_n 0) := mt_cd_of (q := (20, .aload_n 0, 1)) mq_65 ci_65 (List.mem_of_getElem? (i := 9) rfl)
theorem cd_65_21 : mt_cd 65 21 = some (.getfield 28) := mt_cd_of (q := (21, .getfield 28, 3)) mq_65 ci_65 (List.mem_of_getElem? (i := 10) rfl)
theorem cd_65_24 : mt_cd 65 24 = some (.iload_n 1) := mt_cd_of (q := (24, .iload_n 1, 1)) mq_65 ci_65 (List.mem_of_getElem? (i := 11) rfl)
theorem cd_65_25 : mt_cd 65 25 = some (.iastore) := mt_cd_of (q := (25, .iastore, 1)) mq_65 ci_65 (List.mem_of_getElem? (i := 12) rfl)
theorem cd_65_26 : mt_cd 65 26 = some (.aload_n 0) := mt_cd_of (q := (26, .aload_n 0, 1)) mq_65 ci_65 (List.mem_of_getElem? (i := 13) rfl)
theorem cd_65_27 : mt_cd 65 27 = some (.getfield 15) := mt_cd_of (q := (27, .getfield 15, 3)) mq_65 ci_65 (List.mem_of_getElem? (i := 14) rfl)
theorem cd_65_30 : mt_cd 65 30 = some (.aload_n 0) := mt_cd_of (q := (30, .aload_n 0, 1)) mq_65 ci_65 (List.mem_of_getElem? (i := 15) rfl)
theorem cd_65_31 : mt_cd 65 31 = some (.getfield 28) := mt_cd_of (q := (31, .getfield 28, 3)) mq_65 ci_65 (List.mem_of_getElem? (i := 16) rfl)
theorem cd_65_34 : mt_cd 65 34 = some (.iload_n 2) := mt_cd_of (q := (34, .iload_n 2, 1)) mq_65 ci_65 (List.mem_of_getElem? (i := 17) rfl)
theorem cd_65_35 : mt_cd 65 35 = some (.iastore) := mt_cd_of (q := (35, .iastore, 1)) mq_65 ci_65 (List.mem_of_getElem? (i := 18) rfl)
theorem cd_65_36 : mt_cd 65 36 = some (.aload_n 0) := mt_cd_of (q := (36, .aload_n 0, 1)) mq_65 ci_65 (List.mem_of_getElem? (i := 19) rfl)
theorem cd_65_37 : mt_cd 65 37 = some (.getfield 18) := mt_cd_of (q := (37, .getfield 18, 3)) mq_65 ci_65 (List.mem_of_getElem? (i := 20) rfl)
theorem cd_65_40 : mt_cd 65 40 = some (.aload_n 0) := mt_cd_of (q := (40, .aload_n 0, 1)) mq_65 ci_65 (List.mem_of_getElem? (i := 21) rfl)
theorem cd_65_41 : mt_cd 65 41 = some (.getfield 28) := mt_cd_of (q := (41, .getfield 28, 3)) mq_65 ci_65 (List.mem_of_getElem? (i := 22) rfl)
theorem cd_65_44 : mt_cd 65 44 = some (.iload_n 3) := mt_cd_of (q := (44, .iload_n 3, 1)) mq_65 ci_65 (List.mem_of_getElem? (i := 23) rfl)
theorem cd_65_45 : mt_cd 65 45 = some (.iastore) := mt_cd_of (q := (45, .iastore, 1)) mq_65 ci_65 (List.mem_of_getElem? (i := 24) rfl)
theorem cd_65_46 : mt_cd 65 46 = some (.aload_n 0) := mt_cd_of (q := (46, .aload_n 0, 1)) mq_65 ci_65 (List.mem_of_getElem? (i := 25) rfl)
theorem cd_65_47 : mt_cd 65 47 = some (.getfield 21) := mt_cd_of (q := (47, .getfield 21, 3)) mq_65 ci_65 (List.mem_of_getElem? (i := 26) rfl)
theorem cd_65_50 : mt_cd 65 50 = some (.aload_n 0) := mt_cd_of (q := (50, .aload_n 0, 1)) mq_65 ci_65 (List.mem_of_getElem? (i := 27) rfl)
theorem cd_65_51 : mt_cd 65 51 = some (.getfield 28) := mt_cd_of (q := (51, .getfield 28, 3)) mq_65 ci_65 (List.mem_of_getElem? (i := 28) rfl)
theorem cd_65_54 : mt_cd 65 54 = some (.iload 4) := mt_cd_of (q := (54, .iload 4, 2)) mq_65 ci_65 (List.mem_of_getElem? (i := 29) rfl)
theorem cd_65_56 : mt_cd 65 56 = some (.iastore) := mt_cd_of (q := (56, .iastore, 1)) mq_65 ci_65 (List.mem_of_getElem? (i := 30) rfl)
theorem cd_65_57 : mt_cd 65 57 = some (.aload_n 0) := mt_cd_of (q := (57, .aload_n 0, 1)) mq_65 ci_65 (List.mem_of_getElem? (i := 31) rfl)
theorem cd_65_58 : mt_cd 65 58 = some (.getfield 24) := mt_cd_of (q := (58, .getfield 24, 3)) mq_65 ci_65 (List.mem_of_getElem? (i := 32) rfl)
theorem cd_65_61 : mt_cd 65 61 = some (.aload_n 0) := mt_cd_of (q := (61, .aload_n 0, 1)) mq_65 ci_65 (List.mem_of_getElem? (i := 33) rfl)
theorem cd_65_62 : mt_cd 65 62 = some (.getfield 28) := mt_cd_of (q := (62, .getfield 28, 3)) mq_65 ci_65 (List.mem_of_getElem? (i := 34) rfl)
theorem cd_65_65 : mt_cd 65 65 = some (.lload 5) := mt_cd_of (q := (65, .lload 5, 2)) mq_65 ci_65 (List.mem_of_getElem? (i := 35) rfl)
theorem cd_65_67 : mt_cd 65 67 = some (.lastore) := mt_cd_of (q := (67, .lastore, 1)) mq_65 ci_65 (List.mem_of_getElem? (i := 36) rfl)
theorem cd_65_68 : mt_cd 65 68 = some (.aload_n 0) := mt_cd_of (q := (68, .aload_n 0, 1)) mq_65 ci_65 (List.mem_of_getElem? (i := 37) rfl)
theorem cd_65_69 : mt_cd 65 69 = some (.dup) := mt_cd_of (q := (69, .dup, 1)) mq_65 ci_65 (List.mem_of_getElem? (i := 38) rfl)
theorem cd_65_70 : mt_cd 65 70 = some (.getfield 28) := mt_cd_of (q := (70, .getfield 28, 3)) mq_65 ci_65 (List.mem_of_getElem? (i := 39) rfl)
theorem cd_65_73 : mt_cd 65 73 = some (.iconst 1) := mt_cd_of (q := (73, .iconst 1, 1)) mq_65 ci_65 (List.mem_of_getElem? (i := 40) rfl)
theorem cd_65_74 : mt_cd 65 74 = some (.iadd) := mt_cd_of (q := (74, .iadd, 1)) mq_65 ci_65 (List.mem_of_getElem? (i := 41) rfl)
theorem cd_65_75 : mt_cd 65 75 = some (.putfield 28) := mt_cd_of (q := (75, .putfield 28, 3)) mq_65 ci_65 (List.mem_of_getElem? (i := 42) rfl)
theorem cd_65_78 : mt_cd 65 78 = some (.aload_n 0) := mt_cd_of (q := (78, .aload_n 0, 1)) mq_65 ci_65 (List.mem_of_getElem? (i := 43) rfl)
theorem cd_65_79 : mt_cd 65 79 = some (.getfield 28) := mt_cd_of (q := (79, .getfield 28, 3)) mq_65 ci_65 (List.mem_of_getElem? (i := 44) rfl)
theorem cd_65_82 : mt_cd 65 82 = some (.ireturn) := mt_cd_of (q := (82, .ireturn, 1)) mq_65 ci_65 (List.mem_of_getElem? (i := 45) rfl)
theorem b_65_0 {d : Nat} {Q : (Option Value ⊕ Nat) → mi_H → Prop} (n sl : Nat) (f : Nat → mi_C) {l1 : Nat} {l2 : Int32} {l3 : Int32} {l4 : Int32} {l5 : Int32} {l6 : Int64} {fs7 : List Value} {x10 : Int32} (h8 : f l1 = .inr (6, fs7)) (h9 : l1 < n) (h11 : fs7[5]? = some (.int x10)) (h12 : x10 < (0 : Int32) → mi_W d 65 78 [some (.ref l1), some (.int l2), some (.int l3), some (.int l4), some (.int l5), some (.long l6), none] [] (n, sl, f) Q) (h13 : ¬ (x10 < (0 : Int32)) → mi_W d 65 7 [some (.ref l1), some (.int l2), some (.int l3), some (.int l4), some (.int l5), some (.long l6), none] [] (n, sl, f) Q) : mi_W d 65 0 [some (.ref l1), some (.int l2), some (.int l3), some (.int l4), some (.int l5), some (.long l6), none] [] (n, sl, f) Q := by
  refine w_aload_n cd_65_0 rfl ?_
  refine w_getfield cd_65_1 (show mt_f 6 28 = some (6, 5) by decide +kernel) h8 h9 h11 ?_
  exact w_iflt cd_65_4 (by decide) h12 h13
theorem b_65_7 {d : Nat} {Q : (Option Value ⊕ Nat) → mi_H → Prop} (n sl : Nat) (f : Nat → mi_C) {l1 : Nat} {l2 : Int32} {l3 : Int32} {l4 : Int32} {l5 : Int32} {l6 : Int64} {fs7 : List Value} {x10 : Int32} (h8 : f l1 = .inr (6, fs7)) (h9 : l1 < n) (h11 : fs7[5]? = some (.int x10)) (h12 : 16 ≤ x10 → mi_W d 65 78 [some (.ref l1), some (.int l2), some (.int l3), some (.int l4), some (.int l5), some (.long l6), none] [] (n, sl, f) Q) (h13 : ¬ (16 ≤ x10) → mi_W d 65 16 [some (.ref l1), some (.int l2), some (.int l3), some (.int l4), some (.int l5), some (.long l6), none] [] (n, sl, f) Q) : mi_W d 65 7 [some (.ref l1), some (.int l2), some (.int l3), some (.int l4), some (.int l5), some (.long l6), none] [] (n, sl, f) Q := by
  refine w_aload_n cd_65_7 rfl ?_
  refine w_getfield cd_65_8 (show mt_f 6 28 = some (6, 5) by decide +kernel) h8 h9 h11 ?_
  refine w_bipush (v := 16) cd_65_11 (by decide) ?_
  exact w_if_icmpge cd_65_13 (by decide) h12 h13
theorem b_65_16 {d : Nat} {Q : (Option Value ⊕ Nat) → mi_H → Prop} (n sl : Nat) (f : Nat → mi_C) {l1 : Nat} {l2 : Int32} {l3 : Int32} {l4 : Int32} {l5 : Int32} {l6 : Int64} {fs7 : List Value} {x10 : Nat} {fs12 : List Value} {x15 : Int32} (m17 i17 : Nat) (g17 : Nat → Int32) {fs21 : List Value} {x24 : Nat} {fs26 : List Value} {x29 : Int32} (m31 i31 : Nat) (g31 : Nat → Int32) {fs35 : List Value} {x38 : Nat} {fs40 : List Value} {x43 : Int32} (m45 i45 : Nat) (g45 : Nat → Int32) {fs49 : List Value} {x52 : Nat} {fs54 : List Value} {x57 : Int32} (m59 i59 : Nat) (g59 : Nat → Int32) {fs63 : List Value} {x66 : Nat} {fs68 : List Value} {x71 : Int32} (m73 i73 : Nat) (g73 : Nat → Int64) {fs77 : List Value} {x80 : Int32} {fs82 : List Value} (h8 : f l1 = .inr (6, fs7)) (h9 : l1 < n) (h11 : fs7[0]? = some (.ref x10)) (h13 : f l1 = .inr (6, fs12)) (h14 : l1 < n) (h16 : fs12[5]? = some (.int x15)) (h18 : f x10 = .inl (0, m17, .inl g17)) (h19 : x10 < n) (h20 : mi_ix x15 m17 i17) (h22 : (va_up f x10 (.inl (0, m17, .inl (upd g17 i17 l2)))) l1 = .inr (6, fs21)) (h23 : l1 < n) (h25 : fs21[1]? = some (.ref x24)) (h27 : (va_up f x10 (.inl (0, m17, .inl (upd g17 i17 l2)))) l1 = .inr (6, fs26)) (h28 : l1 < n) (h30 : fs26[5]? = some (.int x29)) (h32 : (va_up f x10 (.inl (0, m17, .inl (upd g17 i17 l2)))) x24 = .inl (0, m31, .inl g31)) (h33 : x24 < n) (h34 : mi_ix x29 m31 i31) (h36 : (va_up (va_up f x10 (.inl (0, m17, .inl (upd g17 i17 l2)))) x24 (.inl (0, m31, .inl (upd g31 i31 l3)))) l1 = .inr (6, fs35)) (h37 : l1 < n) (h39 : fs35[2]? = some (.ref x38)) (h41 : (va_up (va_up f x10 (.inl (0, m17, .inl (upd g17 i17 l2)))) x24 (.inl (0, m31, .inl (upd g31 i31 l3)))) l1 = .inr (6, fs40)) (h42 : l1 < n) (h44 : fs40[5]? = some (.int x43)) (h46 : (va_up (va_up f x10 (.inl (0, m17, .inl (upd g17 i17 l2)))) x24 (.inl (0, m31, .inl (upd g31 i31 l3)))) x38 = .inl (0, m45, .inl g45)) (h47 : x38 < n) (h48 : mi_ix x43 m45 i45) (h50 : (va_up (va_up (va_up f x10 (.inl (0, m17, .inl (upd g17 i17 l2)))) x24 (.inl (0, m31, .inl (upd g31 i31 l3)))) x38 (.inl (0, m45, .inl (upd g45 i45 l4)))) l1 = .inr (6, fs49)) (h51 : l1 < n) (h53 : fs49[3]? = some (.ref x52)) (h55 : (va_up (va_up (va_up f x10 (.inl (0, m17, .inl (upd g17 i17 l2)))) x24 (.inl (0, m31, .inl (upd g31 i31 l3)))) x38 (.inl (0, m45, .inl (upd g45 i45 l4)))) l1 = .inr (6, fs54)) (h56 : l1 < n) (h58 : fs54[5]? = some (.int x57)) (h60 : (va_up (va_up (va_up f x10 (.inl (0, m17, .inl (upd g17 i17 l2)))) x24 (.inl (0, m31, .inl (upd g31 i31 l3)))) x38 (.inl (0, m45, .inl (upd g45 i45 l4)))) x52 = .inl (0, m59, .inl g59)) (h61 : x52 < n) (h62 : mi_ix x57 m59 i59) (h64 : (va_up (va_up (va_up (va_up f x10 (.inl (0, m17, .inl (upd g17 i17 l2)))) x24 (.inl (0, m31, .inl (upd g31 i31 l3)))) x38 (.inl (0, m45, .inl (upd g45 i45 l4)))) x52 (.inl (0, m59, .inl (upd g59 i59 l5)))) l1 = .inr (6, fs63)) (h65 : l1 < n) (h67 : fs63[4]? = some (.ref x66)) (h69 : (va_up (va_up (va_up (va_up f x10 (.inl (0, m17, .inl (upd g17 i17 l2)))) x24 (.inl (0, m31, .inl (upd g31 i31 l3)))) x38 (.inl (0, m45, .inl (upd g45 i45 l4)))) x52 (.inl (0, m59, .inl (upd g59 i59 l5)))) l1 = .inr (6, fs68)) (h70 : l1 < n) (h72 : fs68[5]? = some (.int x71)) (h74 : (va_up (va_up (va_up (va_up f x10 (.inl (0, m17, .inl (upd g17 i17 l2)))) x24 (.inl (0, m31, .inl (upd g31 i31 l3)))) x38 (.inl (0, m45, .inl (upd g45 i45 l4)))) x52 (.inl (0, m59, .inl (upd g59 i59 l5)))) x66 = .inl (3, m73, .inr (.inl g73))) (h75 : x66 < n) (h76 : mi_ix x71 m73 i73) (h78 : (va_up (va_up (va_up (va_up (va_up f x10 (.inl (0, m17, .inl (upd g17 i17 l2)))) x24 (.inl (0, m31, .inl (upd g31 i31 l3)))) x38 (.inl (0, m45, .inl (upd g45 i45 l4)))) x52 (.inl (0, m59, .inl (upd g59 i59 l5)))) x66 (.inl (3, m73, .inr (.inl (vp_updL g73 i73 l6))))) l1 = .inr (6, fs77)) (h79 : l1 < n) (h81 : fs77[5]? = some (.int x80)) (h83 : (va_up (va_up (va_up (va_up (va_up f x10 (.inl (0, m17, .inl (upd g17 i17 l2)))) x24 (.inl (0, m31, .inl (upd g31 i31 l3)))) x38 (.inl (0, m45, .inl (upd g45 i45 l4)))) x52 (.inl (0, m59, .inl (upd g59 i59 l5)))) x66 (.inl (3, m73, .inr (.inl (vp_updL g73 i73 l6))))) l1 = .inr (6, fs82)) (h84 : l1 < n) (h85 : 5 < fs82.length) (h86 : mi_W d 65 78 [some (.ref l1), some (.int l2), some (.int l3), some (.int l4), some (.int l5), some (.long l6), none] [] (n, sl, (va_up (va_up (va_up (va_up (va_up (va_up f x10 (.inl (0, m17, .inl (upd g17 i17 l2)))) x24 (.inl (0, m31, .inl (upd g31 i31 l3)))) x38 (.inl (0, m45, .inl (upd g45 i45 l4)))) x52 (.inl (0, m59, .inl (upd g59 i59 l5)))) x66 (.inl (3, m73, .inr (.inl (vp_updL g73 i73 l6))))) l1 (.inr (6, fs82.set 5 (.int (x80 + 1)))))) Q) : mi_W d 65 16 [some (.ref l1), some (.int l2), some (.int l3), some (.int l4), some (.int l5), some (.long l6), none] [] (n, sl, f) Q := by
  refine w_aload_n cd_65_16 rfl ?_
  refine w_getfield cd_65_17 (show mt_f 6 9 = some (6, 0) by decide +kernel) h8 h9 h11 ?_
  refine w_aload_n cd_65_20 rfl ?_
  refine w_getfield cd_65_21 (show mt_f 6 28 = some (6, 5) by decide +kernel) h13 h14 h16 ?_
  refine w_iload_n cd_65_24 rfl ?_
  refine w_iastore cd_65_25 h18 h19 h20 ?_
  refine w_aload_n cd_65_26 rfl ?_
  refine w_getfield cd_65_27 (show mt_f 6 15 = some (6, 1) by decide +kernel) h22 h23 h25 ?_
  refine w_aload_n cd_65_30 rfl ?_
  refine w_getfield cd_65_31 (show mt_f 6 28 = some (6, 5) by decide +kernel) h27 h28 h30 ?_
  refine w_iload_n cd_65_34 rfl ?_
  refine w_iastore cd_65_35 h32 h33 h34 ?_
  refine w_aload_n cd_65_36 rfl ?_
  refine w_getfield cd_65_37 (show mt_f 6 18 = some (6, 2) by decide +kernel) h36 h37 h39 ?_
  refine w_aload_n cd_65_40 rfl ?_
  refine w_getfield cd_65_41 (show mt_f 6 28 = some (6, 5) by decide +kernel) h41 h42 h44 ?_
  refine w_iload_n cd_65_44 rfl ?_
  refine w_iastore cd_65_45 h46 h47 h48 ?_
  refine w_aload_n cd_65_46 rfl ?_
  refine w_getfield cd_65_47 (show mt_f 6 21 = some (6, 3) by decide +kernel) h50 h51 h53 ?_
  refine w_aload_n cd_65_50 rfl ?_
  refine w_getfield cd_65_51 (show mt_f 6 28 = some (6, 5) by decide +kernel) h55 h56 h58 ?_
  refine w_iload cd_65_54 rfl ?_
  refine w_iastore cd_65_56 h60 h61 h62 ?_
  refine w_aload_n cd_65_57 rfl ?_
  refine w_getfield cd_65_58 (show mt_f 6 24 = some (6, 4) by decide +kernel) h64 h65 h67 ?_
  refine w_aload_n cd_65_61 rfl ?_
  refine w_getfield cd_65_62 (show mt_f 6 28 = some (6, 5) by decide +kernel) h69 h70 h72 ?_
  refine w_lload cd_65_65 rfl ?_
  refine w_lastore cd_65_67 h74 h75 h76 ?_
  refine w_aload_n cd_65_68 rfl ?_
  refine w_dup_r cd_65_69 ?_
  refine w_getfield cd_65_70 (show mt_f 6 28 = some (6, 5) by decide +kernel) h78 h79 h81 ?_
  refine w_iconst (v := 1) cd_65_73 (by decide) ?_
  refine w_iadd cd_65_74 ?_
  refine w_putfield (w := .int (x80 + 1)) cd_65_75 (show mt_f 6 28 = some (6, 5) by decide +kernel) h83 h84 ⟨h85, rfl, Or.inl (by decide)⟩ ?_
  exact h86
theorem b_65_78 {d : Nat} {Q : (Option Value ⊕ Nat) → mi_H → Prop} (n sl : Nat) (f : Nat → mi_C) {l1 : Nat} {l2 : Int32} {l3 : Int32} {l4 : Int32} {l5 : Int32} {l6 : Int64} {fs7 : List Value} {x10 : Int32} (h8 : f l1 = .inr (6, fs7)) (h9 : l1 < n) (h11 : fs7[5]? = some (.int x10)) (h12 : Q (.inl (some (.int x10))) (n, sl, f)) : mi_W d 65 78 [some (.ref l1), some (.int l2), some (.int l3), some (.int l4), some (.int l5), some (.long l6), none] [] (n, sl, f) Q := by
  refine w_aload_n cd_65_78 rfl ?_
  refine w_getfield cd_65_79 (show mt_f 6 28 = some (6, 5) by decide +kernel) h8 h9 h11 ?_
  exact w_ireturn_i cd_65_82 (by decide +kernel) h12
/-! MarloweHostLaw.choose(LMarloweHost;IJ[J)I -/
set_option maxRecDepth 100000 in
theorem mq_66 : mt_q 66 = my_66 := rfl
set_option maxRecDepth 100000 in
theorem ci_66 : mt_inc 0 my_66.cd = true := by decide +kernel
theorem cd_66_0 : mt_cd 66 0 = some (.aload 4) := mt_cd_of (q := (0, .aload 4, 2)) mq_66 ci_66 (List.mem_of_getElem? (i := 0) rfl)
theorem cd_66_2 : mt_cd 66 2 = some (.iconst 0) := mt_cd_of (q := (2, .iconst 0, 1)) mq_66 ci_66 (List.mem_of_getElem? (i := 1) rfl)
theorem cd_66_3 : mt_cd 66 3 = some (.aload_n 0) := mt_cd_of (q := (3, .aload_n 0, 1)) mq_66 ci_66 (List.mem_of_getElem? (i := 2) rfl)
theorem cd_66_4 : mt_cd 66 4 = some (.iload_n 1) := mt_cd_of (q := (4, .iload_n 1, 1)) mq_66 ci_66 (List.mem_of_getElem? (i := 3) rfl)
theorem cd_66_5 : mt_cd 66 5 = some (.lload_n 2) := mt_cd_of (q := (5, .lload_n 2, 1)) mq_66 ci_66 (List.mem_of_getElem? (i := 4) rfl)
theorem cd_66_6 : mt_cd 66 6 = some (.invokevirtual 29) := mt_cd_of (q := (6, .invokevirtual 29, 3)) mq_66 ci_66 (List.mem_of_getElem? (i := 5) rfl)
theorem cd_66_9 : mt_cd 66 9 = some (.i2l) := mt_cd_of (q := (9, .i2l, 1)) mq_66 ci_66 (List.mem_of_getElem? (i := 6) rfl)
theorem cd_66_10 : mt_cd 66 10 = some (.lastore) := mt_cd_of (q := (10, .lastore, 1)) mq_66 ci_66 (List.mem_of_getElem? (i := 7) rfl)
theorem cd_66_11 : mt_cd 66 11 = some (.goto 11) := mt_cd_of (q := (11, .goto 11, 3)) mq_66 ci_66 (List.mem_of_getElem? (i := 8) rfl)
theorem cd_66_14 : mt_cd 66 14 = some (.astore 5) := mt_cd_of (q := (14, .astore 5, 2)) mq_66 ci_66 (List.mem_of_getElem? (i := 9) rfl)
theorem cd_66_16 : mt_cd 66 16 = some (.iconst 1) := mt_cd_of (q := (16, .iconst 1, 1)) mq_66 ci_66 (List.mem_of_getElem? (i := 10) rfl)
theorem cd_66_17 : mt_cd 66 17 = some (.ireturn) := mt_cd_of (q := (17, .ireturn, 1)) mq_66 ci_66 (List.mem_of_getElem? (i := 11) rfl)
theorem cd_66_18 : mt_cd 66 18 = some (.astore 5) := mt_cd_of (q := (18, .astore 5, 2)) mq_66 ci_66 (List.mem_of_getElem? (i := 12) rfl)
theorem cd_66_20 : mt_cd 66 20 = some (.iconst 2) := mt_cd_of (q := (20, .iconst 2, 1)) mq_66 ci_66 (List.mem_of_getElem? (i := 13) rfl)
theorem cd_66_21 : mt_cd 66 21 = some (.ireturn) := mt_cd_of (q := (21, .ireturn, 1)) mq_66 ci_66 (List.mem_of_getElem? (i := 14) rfl)
theorem cd_66_22 : mt_cd 66 22 = some (.iconst 0) := mt_cd_of (q := (22, .iconst 0, 1)) mq_66 ci_66 (List.mem_of_getElem? (i := 15) rfl)
theorem cd_66_23 : mt_cd 66 23 = some (.ireturn) := mt_cd_of (q := (23, .ireturn, 1)) mq_66 ci_66 (List.mem_of_getElem? (i := 16) rfl)
theorem b_66_0 {d : Nat} {Q : (Option Value ⊕ Nat) → mi_H → Prop} (n sl : Nat) (f : Nat → mi_C) {l1 : Nat} {l2 : Int32} {l3 : Int64} {l4 : Nat} {o5 : Option Value} {fs6 : List Value} (h7 : f l1 = .inr (0, fs6)) (h8 : l1 < n) (h9 : mi_W d 67 0 (mi_en 4 [.ref l1, .int l2, .long l3]) [] (n, sl, f) (mi_Kc d 66 6 [some (.ref l1), some (.int l2), some (.long l3), none, some (.ref l4), o5] [.int 0, .ref l4] Q)) : mi_W (d + 1) 66 0 [some (.ref l1), some (.int l2), some (.long l3), none, some (.ref l4), o5] [] (n, sl, f) Q := by
  refine w_aload cd_66_0 rfl ?_
  refine w_iconst (v := 0) cd_66_2 (by decide) ?_
  refine w_aload_n cd_66_3 rfl ?_
  refine w_iload_n cd_66_4 rfl ?_
  refine w_lload_n cd_66_5 rfl ?_
  exact w_invokevirtual cd_66_6 (show mt_m 18 29 = some (67, 0) by decide +kernel) (rest := [.int 0, .ref l4]) rfl (as := [.ref l1, .int l2, .long l3]) rfl h7 (Or.inl h8) ⟨Nat.le_of_ble_eq_true rfl, Nat.le_of_ble_eq_true rfl, Nat.le_of_ble_eq_true rfl⟩ h9
theorem b_66_9 {d : Nat} {Q : (Option Value ⊕ Nat) → mi_H → Prop} (n sl : Nat) (f : Nat → mi_C) {l1 : Nat} {l2 : Int32} {l3 : Int64} {l4 : Nat} {o5 : Option Value} {s6 : Int32} {s7 : Int32} {s8 : Nat} (m9 i9 : Nat) (g9 : Nat → Int64) (h10 : f s8 = .inl (3, m9, .inr (.inl g9))) (h11 : s8 < n) (h12 : mi_ix s7 m9 i9) (h13 : mi_W d 66 22 [some (.ref l1), some (.int l2), some (.long l3), none, some (.ref l4), o5] [] (n, sl, (va_up f s8 (.inl (3, m9, .inr (.inl (vp_updL g9 i9 ((s6 : Int32).toInt64))))))) Q) : mi_W d 66 9 [some (.ref l1), some (.int l2), some (.long l3), none, some (.ref l4), o5] [.int s6, .int s7, .ref s8] (n, sl, f) Q := by
  refine w_i2l cd_66_9 ?_
  refine w_lastore cd_66_10 h10 h11 h12 ?_
  exact w_goto cd_66_11 (by decide) h13
theorem b_66_14 {d : Nat} {Q : (Option Value ⊕ Nat) → mi_H → Prop} (n sl : Nat) (f : Nat → mi_C) {l1 : Nat} {l2 : Int32} {l3 : Int64} {l4 : Nat} {o5 : Option Value} {s6 : Nat} (h7 : Q (.inl (some (.int 1))) (n, sl, f)) : mi_W d 66 14 [some (.ref l1), some (.int l2), some (.long l3), none, some (.ref l4), o5] [.ref s6] (n, sl, f) Q := by
  refine w_astore (ls' := [some (.ref l1), some (.int l2), some (.long l3), none, some (.ref l4), some (.ref s6)]) cd_66_14 (Nat.le_of_ble_eq_true rfl) rfl ?_
  refine w_iconst (v := 1) cd_66_16 (by decide) ?_
  exact w_ireturn_i cd_66_17 (by decide +kernel) h7
theorem b_66_18 {d : Nat} {Q : (Option Value ⊕ Nat) → mi_H → Prop} (n sl : Nat) (f : Nat → mi_C) {l1 : Nat} {l2 : Int32} {l3 : Int64} {l4 : Nat} {o5 : Option Value} {s6 : Nat} (h7 : Q (.inl (some (.int 2))) (n, sl, f)) : mi_W d 66 18 [some (.ref l1), some (.int l2), some (.long l3), none, some (.ref l4), o5] [.ref s6] (n, sl, f) Q := by
  refine w_astore (ls' := [some (.ref l1), some (.int l2), some (.long l3), none, some (.ref l4), some (.ref s6)]) cd_66_18 (Nat.le_of_ble_eq_true rfl) rfl ?_
  refine w_iconst (v := 2) cd_66_20 (by decide) ?_
  exact w_ireturn_i cd_66_21 (by decide +kernel) h7
theorem b_66_22 {d : Nat} {Q : (Option Value ⊕ Nat) → mi_H → Prop} (n sl : Nat) (f : Nat → mi_C) {l1 : Nat} {l2 : Int32} {l3 : Int64} {l4 : Nat} {o5 : Option Value} (h6 : Q (.inl (some (.int 0))) (n, sl, f)) : mi_W d 66 22 [some (.ref l1), some (.int l2), some (.long l3), none, some (.ref l4), o5] [] (n, sl, f) Q := by
  refine w_iconst (v := 0) cd_66_22 (by decide) ?_
  exact w_ireturn_i cd_66_23 (by decide +kernel) h6
/-! MarloweHost.choose(IJ)I -/
set_option maxRecDepth 100000 in
theorem mq_67 : mt_q 67 = my_67 := rfl
set_option maxRecDepth 100000 in
theorem ci_67 : mt_inc 0 my_67.cd = true := by decide +kernel
theorem cd_67_0 : mt_cd 67 0 = some (.iload_n 1) := mt_cd_of (q := (0, .iload_n 1, 1)) mq_67 ci_67 (List.mem_of_getElem? (i := 0) rfl)
theorem cd_67_1 : mt_cd 67 1 = some (.ifCond .lt 9) := mt_cd_of (q := (1, .ifCond .lt 9, 3)) mq_67 ci_67 (List.mem_of_getElem? (i := 1) rfl)
theorem cd_67_4 : mt_cd 67 4 = some (.iload_n 1) := mt_cd_of (q := (4, .iload_n 1, 1)) mq_67 ci_67 (List.mem_of_getElem? (i := 2) rfl)
theorem cd_67_5 : mt_cd 67 5 = some (.bipush 8) := mt_cd_of (q := (5, .bipush 8, 2)) mq_67 ci_67 (List.mem_of_getElem? (i := 3) rfl)
theorem cd_67_7 : mt_cd 67 7 = some (.if_icmp .lt 13) := mt_cd_of (q := (7, .if_icmp .lt 13, 3)) mq_67 ci_67 (List.mem_of_getElem? (i := 4) rfl)
theorem cd_67_10 : mt_cd 67 10 = some (.new 123) := mt_cd_of (q := (10, .new 123, 3)) mq_67 ci_67 (List.mem_of_getElem? (i := 5) rfl)
theorem cd_67_13 : mt_cd 67 13 = some (.dup) := mt_cd_of (q := (13, .dup, 1)) mq_67 ci_67 (List.mem_of_getElem? (i := 6) rfl)
theorem cd_67_14 : mt_cd 67 14 = some (.ldc 141) := mt_cd_of (q := (14, .ldc 141, 2)) mq_67 ci_67 (List.mem_of_getElem? (i := 7) rfl)
theorem cd_67_16 : mt_cd 67 16 = some (.invokespecial 127) := mt_cd_of (q := (16, .invokespecial 127, 3)) mq_67 ci_67 (List.mem_of_getElem? (i := 8) rfl)
theorem cd_67_19 : mt_cd 67 19 = some (.athrow) := mt_cd_of (q := (19, .athrow, 1)) mq_67 ci_67 (List.mem_of_getElem? (i := 9) rfl)
theorem cd_67_20 : mt_cd 67 20 = some (.aload_n 0) := mt_cd_of (q := (20, .aload_n 0, 1)) mq_67 ci_67 (List.mem_of_getElem? (i := 10) rfl)
theorem cd_67_21 : mt_cd 67 21 = some (.invokevirtual 134) := mt_cd_of (q := (21, .invokevirtual 134, 3)) mq_67 ci_67 (List.mem_of_getElem? (i := 11) rfl)
theorem cd_67_24 : mt_cd 67 24 = some (.aload_n 0) := mt_cd_of (q := (24, .aload_n 0, 1)) mq_67 ci_67 (List.mem_of_getElem? (i := 12) rfl)
theorem cd_67_25 : mt_cd 67 25 = some (.getfield 42) := mt_cd_of (q := (25, .getfield 42, 3)) mq_67 ci_67 (List.mem_of_getElem? (i := 13) rfl)
theorem cd_67_28 : mt_cd 67 28 = some (.bipush 9) := mt_cd_of (q := (28, .bipush 9, 2)) mq_67 ci_67 (List.mem_of_getElem? (i := 14) rfl)
theorem cd_67_30 : mt_cd 67 30 = some (.iload_n 1) := mt_cd_of (q := (30, .iload_n 1, 1)) mq_67 ci_67 (List.mem_of_getElem? (i := 15) rfl)
theorem cd_67_31 : mt_cd 67 31 = some (.iconst (-1)) := mt_cd_of (q := (31, .iconst (-1), 1)) mq_67 ci_67 (List.mem_of_getElem? (i := 16) rfl)
theorem cd_67_32 : mt_cd 67 32 = some (.iconst (-1)) := mt_cd_of (q := (32, .iconst (-1), 1)) mq_67 ci_67 (List.mem_of_getElem? (i := 17) rfl)
theorem cd_67_33 : mt_cd 67 33 = some (.lload_n 2) := mt_cd_of (q := (33, .lload_n 2, 1)) mq_67 ci_67 (List.mem_of_getElem? (i := 18) rfl)
theorem cd_67_34 : mt_cd 67 34 = some (.invokevirtual 137) := mt_cd_of (q := (34, .invokevirtual 137, 3)) mq_67 ci_67 (List.mem_of_getElem? (i := 19) rfl)
theorem cd_67_37 : mt_cd 67 37 = some (.ireturn) := mt_cd_of (q := (37, .ireturn, 1)) mq_67 ci_67 (List.mem_of_getElem? (i := 20) rfl)
theorem b_67_0 {d : Nat} {Q : (Option Value ⊕ Nat) → mi_H → Prop} (n sl : Nat) (f : Nat → mi_C) {l1 : Nat} {l2 : Int32} {l3 : Int64} (h4 : l2 < (0 : Int32) → mi_W d 67 10 [some (.ref l1), some (.int l2), some (.long l3), none] [] (n, sl, f) Q) (h5 : ¬ (l2 < (0 : Int32)) → mi_W d 67 4 [some (.ref l1), some (.int l2), some (.long l3), none] [] (n, sl, f) Q) : mi_W d 67 0 [some (.ref l1), some (.int l2), some (.long l3), none] [] (n, sl, f) Q := by
  refine w_iload_n cd_67_0 rfl ?_
  exact w_iflt cd_67_1 (by decide) h4 h5
theorem b_67_4 {d : Nat} {Q : (Option Value ⊕ Nat) → mi_H → Prop} (n sl : Nat) (f : Nat → mi_C) {l1 : Nat} {l2 : Int32} {l3 : Int64} (h4 : l2 < 8 → mi_W d 67 20 [some (.ref l1), some (.int l2), some (.long l3), none] [] (n, sl, f) Q) (h5 : ¬ (l2 < 8) → mi_W d 67 10 [some (.ref l1), some (.int l2), some (.long l3), none] [] (n, sl, f) Q) : mi_W d 67 4 [some (.ref l1), some (.int l2), some (.long l3), none] [] (n, sl, f) Q := by
  refine w_iload_n cd_67_4 rfl ?_
  refine w_bipush (v := 8) cd_67_5 (by decide) ?_
  exact w_if_icmplt cd_67_7 (by decide) h4 h5
theorem b_67_10 {d : Nat} {Q : (Option Value ⊕ Nat) → mi_H → Prop} (n sl : Nat) (f : Nat → mi_C) {l1 : Nat} {l2 : Int32} {l3 : Int64} {h' : mi_H} (h4 : mi_t 67 10 (.new 123) [] (n, sl, f) = some h') (h5 : Q (.inr n) h') : mi_W d 67 10 [some (.ref l1), some (.int l2), some (.long l3), none] [] (n, sl, f) Q := by
  exact w_throw cd_67_10 (show mt_c 0 123 = some 15 by decide +kernel) (by decide) h4 h5
theorem b_67_20 {d : Nat} {Q : (Option Value ⊕ Nat) → mi_H → Prop} (n sl : Nat) (f : Nat → mi_C) {l1 : Nat} {l2 : Int32} {l3 : Int64} {fs4 : List Value} (h5 : f l1 = .inr (0, fs4)) (h6 : l1 < n) (h7 : mi_W d 64 0 (mi_en 1 [.ref l1]) [] (n, sl, f) (mi_Kc d 67 21 [some (.ref l1), some (.int l2), some (.long l3), none] [] Q)) : mi_W (d + 1) 67 20 [some (.ref l1), some (.int l2), some (.long l3), none] [] (n, sl, f) Q := by
  refine w_aload_n cd_67_20 rfl ?_
  exact w_invokevirtual cd_67_21 (show mt_m 0 134 = some (64, 0) by decide +kernel) (rest := []) rfl (as := [.ref l1]) rfl h5 (Or.inl h6) ⟨Nat.le_of_ble_eq_true rfl, Nat.le_of_ble_eq_true rfl, Nat.le_of_ble_eq_true rfl⟩ h7
theorem b_67_24 {d : Nat} {Q : (Option Value ⊕ Nat) → mi_H → Prop} (n sl : Nat) (f : Nat → mi_C) {l1 : Nat} {l2 : Int32} {l3 : Int64} {fs4 : List Value} {x7 : Nat} {fs9 : List Value} (h5 : f l1 = .inr (0, fs4)) (h6 : l1 < n) (h8 : fs4[4]? = some (.ref x7)) (h10 : f x7 = .inr (6, fs9)) (h11 : x7 < n) (h12 : mi_W d 65 0 (mi_en 7 [.ref x7, .int 9, .int l2, .int (-1), .int (-1), .long l3]) [] (n, sl, f) (mi_Kc d 67 34 [some (.ref l1), some (.int l2), some (.long l3), none] [] Q)) : mi_W (d + 1) 67 24 [some (.ref l1), some (.int l2), some (.long l3), none] [] (n, sl, f) Q := by
  refine w_aload_n cd_67_24 rfl ?_
  refine w_getfield cd_67_25 (show mt_f 0 42 = some (0, 4) by decide +kernel) h5 h6 h8 ?_
  refine w_bipush (v := 9) cd_67_28 (by decide) ?_
  refine w_iload_n cd_67_30 rfl ?_
  refine w_iconst (v := (-1)) cd_67_31 (by decide) ?_
  refine w_iconst (v := (-1)) cd_67_32 (by decide) ?_
  refine w_lload_n cd_67_33 rfl ?_
  exact w_invokevirtual cd_67_34 (show mt_m 0 137 = some (65, 0) by decide +kernel) (rest := []) rfl (as := [.ref x7, .int 9, .int l2, .int (-1), .int (-1), .long l3]) rfl h10 (Or.inl h11) ⟨Nat.le_of_ble_eq_true rfl, Nat.le_of_ble_eq_true rfl, Nat.le_of_ble_eq_true rfl⟩ h12
theorem b_67_37 {d : Nat} {Q : (Option Value ⊕ Nat) → mi_H → Prop} (n sl : Nat) (f : Nat → mi_C) {l1 : Nat} {l2 : Int32} {l3 : Int64} {s4 : Int32} (h5 : Q (.inl (some (.int s4))) (n, sl, f)) : mi_W d 67 37 [some (.ref l1), some (.int l2), some (.long l3), none] [.int s4] (n, sl, f) Q := by
  exact w_ireturn_i cd_67_37 (by decide +kernel) h5
/-! MarloweHostLaw.remind(LMarloweHost;[J)I -/
set_option maxRecDepth 100000 in
theorem mq_68 : mt_q 68 = my_68 := rfl
set_option maxRecDepth 100000 in
theorem ci_68 : mt_inc 0 my_68.cd = true := by decide +kernel
theorem cd_68_0 : mt_cd 68 0 = some (.aload_n 1) := mt_cd_of (q := (0, .aload_n 1, 1)) mq_68 ci_68 (List.mem_of_getElem? (i := 0) rfl)
theorem cd_68_1 : mt_cd 68 1 = some (.iconst 0) := mt_cd_of (q := (1, .iconst 0, 1)) mq_68 ci_68 (List.mem_of_getElem? (i := 1) rfl)
theorem cd_68_2 : mt_cd 68 2 = some (.aload_n 0) := mt_cd_of (q := (2, .aload_n 0, 1)) mq_68 ci_68 (List.mem_of_getElem? (i := 2) rfl)
theorem cd_68_3 : mt_cd 68 3 = some (.invokevirtual 33) := mt_cd_of (q := (3, .invokevirtual 33, 3)) mq_68 ci_68 (List.mem_of_getElem? (i := 3) rfl)
theorem cd_68_6 : mt_cd 68 6 = some (.i2l) := mt_cd_of (q := (6, .i2l, 1)) mq_68 ci_68 (List.mem_of_getElem? (i := 4) rfl)
theorem cd_68_7 : mt_cd 68 7 = some (.lastore) := mt_cd_of (q := (7, .lastore, 1)) mq_68 ci_68 (List.mem_of_getElem? (i := 5) rfl)
theorem cd_68_8 : mt_cd 68 8 = some (.goto 6) := mt_cd_of (q := (8, .goto 6, 3)) mq_68 ci_68 (List.mem_of_getElem? (i := 6) rfl)
theorem cd_68_11 : mt_cd 68 11 = some (.astore_n 2) := mt_cd_of (q := (11, .astore_n 2, 1)) mq_68 ci_68 (List.mem_of_getElem? (i := 7) rfl)
theorem cd_68_12 : mt_cd 68 12 = some (.iconst 1) := mt_cd_of (q := (12, .iconst 1, 1)) mq_68 ci_68 (List.mem_of_getElem? (i := 8) rfl)
theorem cd_68_13 : mt_cd 68 13 = some (.ireturn) := mt_cd_of (q := (13, .ireturn, 1)) mq_68 ci_68 (List.mem_of_getElem? (i := 9) rfl)
theorem cd_68_14 : mt_cd 68 14 = some (.iconst 0) := mt_cd_of (q := (14, .iconst 0, 1)) mq_68 ci_68 (List.mem_of_getElem? (i := 10) rfl)
theorem cd_68_15 : mt_cd 68 15 = some (.ireturn) := mt_cd_of (q := (15, .ireturn, 1)) mq_68 ci_68 (List.mem_of_getElem? (i := 11) rfl)
theorem b_68_0 {d : Nat} {Q : (Option Value ⊕ Nat) → mi_H → Prop} (n sl : Nat) (f : Nat → mi_C) {l1 : Nat} {l2 : Nat} {o3 : Option Value} {fs4 : List Value} (h5 : f l1 = .inr (0, fs4)) (h6 : l1 < n) (h7 : mi_W d 69 0 (mi_en 1 [.ref l1]) [] (n, sl, f) (mi_Kc d 68 3 [some (.ref l1), some (.ref l2), o3] [.int 0, .ref l2] Q)) : mi_W (d + 1) 68 0 [some (.ref l1), some (.ref l2), o3] [] (n, sl, f) Q := by
  refine w_aload_n cd_68_0 rfl ?_
  refine w_iconst (v := 0) cd_68_1 (by decide) ?_
  refine w_aload_n cd_68_2 rfl ?_
  exact w_invokevirtual cd_68_3 (show mt_m 18 33 = some (69, 0) by decide +kernel) (rest := [.int 0, .ref l2]) rfl (as := [.ref l1]) rfl h5 (Or.inl h6) ⟨Nat.le_of_ble_eq_true rfl, Nat.le_of_ble_eq_true rfl, Nat.le_of_ble_eq_true rfl⟩ h7
theorem b_68_6 {d : Nat} {Q : (Option Value ⊕ Nat) → mi_H → Prop} (n sl : Nat) (f : Nat → mi_C) {l1 : Nat} {l2 : Nat} {o3 : Option Value} {s4 : Int32} {s5 : Int32} {s6 : Nat} (m7 i7 : Nat) (g7 : Nat → Int64) (h8 : f s6 = .inl (3, m7, .inr (.inl g7))) (h9 : s6 < n) (h10 : mi_ix s5 m7 i7) (h11 : mi_W d 68 14 [some (.ref l1), some (.ref l2), o3] [] (n, sl, (va_up f s6 (.inl (3, m7, .inr (.inl (vp_updL g7 i7 ((s4 : Int32).toInt64))))))) Q) : mi_W d 68 6 [some (.ref l1), some (.ref l2), o3] [.int s4, .int s5, .ref s6] (n, sl, f) Q := by
  refine w_i2l cd_68_6 ?_
  refine w_lastore cd_68_7 h8 h9 h10 ?_
  exact w_goto cd_68_8 (by decide) h11
theorem b_68_11 {d : Nat} {Q : (Option Value ⊕ Nat) → mi_H → Prop} (n sl : Nat) (f : Nat → mi_C) {l1 : Nat} {l2 : Nat} {o3 : Option Value} {s4 : Nat} (h5 : Q (.inl (some (.int 1))) (n, sl, f)) : mi_W d 68 11 [some (.ref l1), some (.ref l2), o3] [.ref s4] (n, sl, f) Q := by
  refine w_astore_n (ls' := [some (.ref l1), some (.ref l2), some (.ref s4)]) cd_68_11 (Nat.le_of_ble_eq_true rfl) rfl ?_
  refine w_iconst (v := 1) cd_68_12 (by decide) ?_
  exact w_ireturn_i cd_68_13 (by decide +kernel) h5
theorem b_68_14 {d : Nat} {Q : (Option Value ⊕ Nat) → mi_H → Prop} (n sl : Nat) (f : Nat → mi_C) {l1 : Nat} {l2 : Nat} {o3 : Option Value} (h4 : Q (.inl (some (.int 0))) (n, sl, f)) : mi_W d 68 14 [some (.ref l1), some (.ref l2), o3] [] (n, sl, f) Q := by
  refine w_iconst (v := 0) cd_68_14 (by decide) ?_
  exact w_ireturn_i cd_68_15 (by decide +kernel) h4
/-! MarloweHost.remind()I -/
set_option maxRecDepth 100000 in
theorem mq_69 : mt_q 69 = my_69 := rfl
set_option maxRecDepth 100000 in
theorem ci_69 : mt_inc 0 my_69.cd = true := by decide +kernel
theorem cd_69_0 : mt_cd 69 0 = some (.aload_n 0) := mt_cd_of (q := (0, .aload_n 0, 1)) mq_69 ci_69 (List.mem_of_getElem? (i := 0) rfl)
theorem cd_69_1 : mt_cd 69 1 = some (.invokevirtual 134) := mt_cd_of (q := (1, .invokevirtual 134, 3)) mq_69 ci_69 (List.mem_of_getElem? (i := 1) rfl)
theorem cd_69_4 : mt_cd 69 4 = some (.aload_n 0) := mt_cd_of (q := (4, .aload_n 0, 1)) mq_69 ci_69 (List.mem_of_getElem? (i := 2) rfl)
theorem cd_69_5 : mt_cd 69 5 = some (.getfield 42) := mt_cd_of (q := (5, .getfield 42, 3)) mq_69 ci_69 (List.mem_of_getElem? (i := 3) rfl)
theorem cd_69_8 : mt_cd 69 8 = some (.bipush 10) := mt_cd_of (q := (8, .bipush 10, 2)) mq_69 ci_69 (List.mem_of_getElem? (i := 4) rfl)
theorem cd_69_10 : mt_cd 69 10 = some (.iconst (-1)) := mt_cd_of (q := (10, .iconst (-1), 1)) mq_69 ci_69 (List.mem_of_getElem? (i := 5) rfl)
theorem cd_69_11 : mt_cd 69 11 = some (.iconst (-1)) := mt_cd_of (q := (11, .iconst (-1), 1)) mq_69 ci_69 (List.mem_of_getElem? (i := 6) rfl)
theorem cd_69_12 : mt_cd 69 12 = some (.iconst (-1)) := mt_cd_of (q := (12, .iconst (-1), 1)) mq_69 ci_69 (List.mem_of_getElem? (i := 7) rfl)
theorem cd_69_13 : mt_cd 69 13 = some (.lconst 0) := mt_cd_of (q := (13, .lconst 0, 1)) mq_69 ci_69 (List.mem_of_getElem? (i := 8) rfl)
theorem cd_69_14 : mt_cd 69 14 = some (.invokevirtual 137) := mt_cd_of (q := (14, .invokevirtual 137, 3)) mq_69 ci_69 (List.mem_of_getElem? (i := 9) rfl)
theorem cd_69_17 : mt_cd 69 17 = some (.ireturn) := mt_cd_of (q := (17, .ireturn, 1)) mq_69 ci_69 (List.mem_of_getElem? (i := 10) rfl)
theorem b_69_0 {d : Nat} {Q : (Option Value ⊕ Nat) → mi_H → Prop} (n sl : Nat) (f : Nat → mi_C) {l1 : Nat} {fs2 : List Value} (h3 : f l1 = .inr (0, fs2)) (h4 : l1 < n) (h5 : mi_W d 64 0 (mi_en 1 [.ref l1]) [] (n, sl, f) (mi_Kc d 69 1 [some (.ref l1)] [] Q)) : mi_W (d + 1) 69 0 [some (.ref l1)] [] (n, sl, f) Q := by
  refine w_aload_n cd_69_0 rfl ?_
  exact w_invokevirtual cd_69_1 (show mt_m 0 134 = some (64, 0) by decide +kernel) (rest := []) rfl (as := [.ref l1]) rfl h3 (Or.inl h4) ⟨Nat.le_of_ble_eq_true rfl, Nat.le_of_ble_eq_true rfl, Nat.le_of_ble_eq_true rfl⟩ h5
theorem b_69_4 {d : Nat} {Q : (Option Value ⊕ Nat) → mi_H → Prop} (n sl : Nat) (f : Nat → mi_C) {l1 : Nat} {fs2 : List Value} {x5 : Nat} {fs7 : List Value} (h3 : f l1 = .inr (0, fs2)) (h4 : l1 < n) (h6 : fs2[4]? = some (.ref x5)) (h8 : f x5 = .inr (6, fs7)) (h9 : x5 < n) (h10 : mi_W d 65 0 (mi_en 7 [.ref x5, .int 10, .int (-1), .int (-1), .int (-1), .long 0]) [] (n, sl, f) (mi_Kc d 69 14 [some (.ref l1)] [] Q)) : mi_W (d + 1) 69 4 [some (.ref l1)] [] (n, sl, f) Q := by
  refine w_aload_n cd_69_4 rfl ?_
  refine w_getfield cd_69_5 (show mt_f 0 42 = some (0, 4) by decide +kernel) h3 h4 h6 ?_
  refine w_bipush (v := 10) cd_69_8 (by decide) ?_
  refine w_iconst (v := (-1)) cd_69_10 (by decide) ?_
  refine w_iconst (v := (-1)) cd_69_11 (by decide) ?_
  refine w_iconst (v := (-1)) cd_69_12 (by decide) ?_
  refine w_lconst (lv := 0) cd_69_13 (by decide) ?_
  exact w_invokevirtual cd_69_14 (show mt_m 0 137 = some (65, 0) by decide +kernel) (rest := []) rfl (as := [.ref x5, .int 10, .int (-1), .int (-1), .int (-1), .long 0]) rfl h8 (Or.inl h9) ⟨Nat.le_of_ble_eq_true rfl, Nat.le_of_ble_eq_true rfl, Nat.le_of_ble_eq_true rfl⟩ h10
theorem b_69_17 {d : Nat} {Q : (Option Value ⊕ Nat) → mi_H → Prop} (n sl : Nat) (f : Nat → mi_C) {l1 : Nat} {s2 : Int32} (h3 : Q (.inl (some (.int s2))) (n, sl, f)) : mi_W d 69 17 [some (.ref l1)] [.int s2] (n, sl, f) Q := by
  exact w_ireturn_i cd_69_17 (by decide +kernel) h3
/-! MarloweHostLaw.apply(LMarloweHost;JJ[J)I -/
set_option maxRecDepth 100000 in
theorem mq_70 : mt_q 70 = my_70 := rfl
set_option maxRecDepth 100000 in
theorem ci_70 : mt_inc 0 my_70.cd = true := by decide +kernel
theorem cd_70_0 : mt_cd 70 0 = some (.aload 5) := mt_cd_of (q := (0, .aload 5, 2)) mq_70 ci_70 (List.mem_of_getElem? (i := 0) rfl)
theorem cd_70_2 : mt_cd 70 2 = some (.iconst 0) := mt_cd_of (q := (2, .iconst 0, 1)) mq_70 ci_70 (List.mem_of_getElem? (i := 1) rfl)
theorem cd_70_3 : mt_cd 70 3 = some (.aload_n 0) := mt_cd_of (q := (3, .aload_n 0, 1)) mq_70 ci_70 (List.mem_of_getElem? (i := 2) rfl)
theorem cd_70_4 : mt_cd 70 4 = some (.lload_n 1) := mt_cd_of (q := (4, .lload_n 1, 1)) mq_70 ci_70 (List.mem_of_getElem? (i := 3) rfl)
theorem cd_70_5 : mt_cd 70 5 = some (.lload_n 3) := mt_cd_of (q := (5, .lload_n 3, 1)) mq_70 ci_70 (List.mem_of_getElem? (i := 4) rfl)
theorem cd_70_6 : mt_cd 70 6 = some (.invokevirtual 37) := mt_cd_of (q := (6, .invokevirtual 37, 3)) mq_70 ci_70 (List.mem_of_getElem? (i := 5) rfl)
theorem cd_70_9 : mt_cd 70 9 = some (.i2l) := mt_cd_of (q := (9, .i2l, 1)) mq_70 ci_70 (List.mem_of_getElem? (i := 6) rfl)
theorem cd_70_10 : mt_cd 70 10 = some (.lastore) := mt_cd_of (q := (10, .lastore, 1)) mq_70 ci_70 (List.mem_of_getElem? (i := 7) rfl)
theorem cd_70_11 : mt_cd 70 11 = some (.goto 7) := mt_cd_of (q := (11, .goto 7, 3)) mq_70 ci_70 (List.mem_of_getElem? (i := 8) rfl)
theorem cd_70_14 : mt_cd 70 14 = some (.astore 6) := mt_cd_of (q := (14, .astore 6, 2)) mq_70 ci_70 (List.mem_of_getElem? (i := 9) rfl)
theorem cd_70_16 : mt_cd 70 16 = some (.iconst 1) := mt_cd_of (q := (16, .iconst 1, 1)) mq_70 ci_70 (List.mem_of_getElem? (i := 10) rfl)
theorem cd_70_17 : mt_cd 70 17 = some (.ireturn) := mt_cd_of (q := (17, .ireturn, 1)) mq_70 ci_70 (List.mem_of_getElem? (i := 11) rfl)
theorem cd_70_18 : mt_cd 70 18 = some (.iconst 0) := mt_cd_of (q := (18, .iconst 0, 1)) mq_70 ci_70 (List.mem_of_getElem? (i := 12) rfl)
theorem cd_70_19 : mt_cd 70 19 = some (.ireturn) := mt_cd_of (q := (19, .ireturn, 1)) mq_70 ci_70 (List.mem_of_getElem? (i := 13) rfl)
theorem b_70_0 {d : Nat} {Q : (Option Value ⊕ Nat) → mi_H → Prop} (n sl : Nat) (f : Nat → mi_C) {l1 : Nat} {l2 : Int64} {l3 : Int64} {l4 : Nat} {o5 : Option Value} {fs6 : List Value} (h7 : f l1 = .inr (0, fs6)) (h8 : l1 < n) (h9 : mi_W d 71 0 (mi_en 6 [.ref l1, .long l2, .long l3]) [] (n, sl, f) (mi_Kc d 70 6 [some (.ref l1), some (.long l2), none, some (.long l3), none, some (.ref l4), o5] [.int 0, .ref l4] Q)) : mi_W (d + 1) 70 0 [some (.ref l1), some (.long l2), none, some (.long l3), none, some (.ref l4), o5] [] (n, sl, f) Q := by
  refine w_aload cd_70_0 rfl ?_
  refine w_iconst (v := 0) cd_70_2 (by decide) ?_
  refine w_aload_n cd_70_3 rfl ?_
  refine w_lload_n cd_70_4 rfl ?_
  refine w_lload_n cd_70_5 rfl ?_
  exact w_invokevirtual cd_70_6 (show mt_m 18 37 = some (71, 0) by decide +kernel) (rest := [.int 0, .ref l4]) rfl (as := [.ref l1, .long l2, .long l3]) rfl h7 (Or.inl h8) ⟨Nat.le_of_ble_eq_true rfl, Nat.le_of_ble_eq_true rfl, Nat.le_of_ble_eq_true rfl⟩ h9
theorem b_70_9 {d : Nat} {Q : (Option Value ⊕ Nat) → mi_H → Prop} (n sl : Nat) (f : Nat → mi_C) {l1 : Nat} {l2 : Int64} {l3 : Int64} {l4 : Nat} {o5 : Option Value} {s6 : Int32} {s7 : Int32} {s8 : Nat} (m9 i9 : Nat) (g9 : Nat → Int64) (h10 : f s8 = .inl (3, m9, .inr (.inl g9))) (h11 : s8 < n) (h12 : mi_ix s7 m9 i9) (h13 : mi_W d 70 18 [some (.ref l1), some (.long l2), none, some (.long l3), none, some (.ref l4), o5] [] (n, sl, (va_up f s8 (.inl (3, m9, .inr (.inl (vp_updL g9 i9 ((s6 : Int32).toInt64))))))) Q) : mi_W d 70 9 [some (.ref l1), some (.long l2), none, some (.long l3), none, some (.ref l4), o5] [.int s6, .int s7, .ref s8] (n, sl, f) Q := by
  refine w_i2l cd_70_9 ?_
  refine w_lastore cd_70_10 h10 h11 h12 ?_
  exact w_goto cd_70_11 (by decide) h13
theorem b_70_14 {d : Nat} {Q : (Option Value ⊕ Nat) → mi_H → Prop} (n sl : Nat) (f : Nat → mi_C) {l1 : Nat} {l2 : Int64} {l3 : Int64} {l4 : Nat} {o5 : Option Value} {s6 : Nat} (h7 : Q (.inl (some (.int 1))) (n, sl, f)) : mi_W d 70 14 [some (.ref l1), some (.long l2), none, some (.long l3), none, some (.ref l4), o5] [.ref s6] (n, sl, f) Q := by
  refine w_astore (ls' := [some (.ref l1), some (.long l2), none, some (.long l3), none, some (.ref l4), some (.ref s6)]) cd_70_14 (Nat.le_of_ble_eq_true rfl) rfl ?_
  refine w_iconst (v := 1) cd_70_16 (by decide) ?_
  exact w_ireturn_i cd_70_17 (by decide +kernel) h7
theorem b_70_18 {d : Nat} {Q : (Option Value ⊕ Nat) → mi_H → Prop} (n sl : Nat) (f : Nat → mi_C) {l1 : Nat} {l2 : Int64} {l3 : Int64} {l4 : Nat} {o5 : Option Value} (h6 : Q (.inl (some (.int 0))) (n, sl, f)) : mi_W d 70 18 [some (.ref l1), some (.long l2), none, some (.long l3), none, some (.ref l4), o5] [] (n, sl, f) Q := by
  refine w_iconst (v := 0) cd_70_18 (by decide) ?_
  exact w_ireturn_i cd_70_19 (by decide +kernel) h6
/-! MarloweHost.apply(JJ)I -/
set_option maxRecDepth 100000 in
theorem mq_71 : mt_q 71 = my_71 := rfl
set_option maxRecDepth 100000 in
theorem ci_71 : mt_inc 0 my_71.cd = true := by decide +kernel
theorem cd_71_0 : mt_cd 71 0 = some (.aload_n 0) := mt_cd_of (q := (0, .aload_n 0, 1)) mq_71 ci_71 (List.mem_of_getElem? (i := 0) rfl)
theorem cd_71_1 : mt_cd 71 1 = some (.invokevirtual 143) := mt_cd_of (q := (1, .invokevirtual 143, 3)) mq_71 ci_71 (List.mem_of_getElem? (i := 1) rfl)
theorem cd_71_4 : mt_cd 71 4 = some (.aload_n 0) := mt_cd_of (q := (4, .aload_n 0, 1)) mq_71 ci_71 (List.mem_of_getElem? (i := 2) rfl)
theorem cd_71_5 : mt_cd 71 5 = some (.getfield 71) := mt_cd_of (q := (5, .getfield 71, 3)) mq_71 ci_71 (List.mem_of_getElem? (i := 3) rfl)
theorem cd_71_8 : mt_cd 71 8 = some (.aload_n 0) := mt_cd_of (q := (8, .aload_n 0, 1)) mq_71 ci_71 (List.mem_of_getElem? (i := 4) rfl)
theorem cd_71_9 : mt_cd 71 9 = some (.getfield 67) := mt_cd_of (q := (9, .getfield 67, 3)) mq_71 ci_71 (List.mem_of_getElem? (i := 5) rfl)
theorem cd_71_12 : mt_cd 71 12 = some (.invokevirtual 146) := mt_cd_of (q := (12, .invokevirtual 146, 3)) mq_71 ci_71 (List.mem_of_getElem? (i := 6) rfl)
theorem cd_71_15 : mt_cd 71 15 = some (.aload_n 0) := mt_cd_of (q := (15, .aload_n 0, 1)) mq_71 ci_71 (List.mem_of_getElem? (i := 7) rfl)
theorem cd_71_16 : mt_cd 71 16 = some (.getfield 51) := mt_cd_of (q := (16, .getfield 51, 3)) mq_71 ci_71 (List.mem_of_getElem? (i := 8) rfl)
theorem cd_71_19 : mt_cd 71 19 = some (.aload_n 0) := mt_cd_of (q := (19, .aload_n 0, 1)) mq_71 ci_71 (List.mem_of_getElem? (i := 9) rfl)
theorem cd_71_20 : mt_cd 71 20 = some (.getfield 71) := mt_cd_of (q := (20, .getfield 71, 3)) mq_71 ci_71 (List.mem_of_getElem? (i := 10) rfl)
theorem cd_71_23 : mt_cd 71 23 = some (.aload_n 0) := mt_cd_of (q := (23, .aload_n 0, 1)) mq_71 ci_71 (List.mem_of_getElem? (i := 11) rfl)
theorem cd_71_24 : mt_cd 71 24 = some (.getfield 42) := mt_cd_of (q := (24, .getfield 42, 3)) mq_71 ci_71 (List.mem_of_getElem? (i := 12) rfl)
theorem cd_71_27 : mt_cd 71 27 = some (.lload_n 1) := mt_cd_of (q := (27, .lload_n 1, 1)) mq_71 ci_71 (List.mem_of_getElem? (i := 13) rfl)
theorem cd_71_28 : mt_cd 71 28 = some (.lload_n 3) := mt_cd_of (q := (28, .lload_n 3, 1)) mq_71 ci_71 (List.mem_of_getElem? (i := 14) rfl)
theorem cd_71_29 : mt_cd 71 29 = some (.invokevirtual 150) := mt_cd_of (q := (29, .invokevirtual 150, 3)) mq_71 ci_71 (List.mem_of_getElem? (i := 15) rfl)
theorem cd_71_32 : mt_cd 71 32 = some (.istore 5) := mt_cd_of (q := (32, .istore 5, 2)) mq_71 ci_71 (List.mem_of_getElem? (i := 16) rfl)
theorem cd_71_34 : mt_cd 71 34 = some (.iload 5) := mt_cd_of (q := (34, .iload 5, 2)) mq_71 ci_71 (List.mem_of_getElem? (i := 17) rfl)
theorem cd_71_36 : mt_cd 71 36 = some (.ifCond .ne 14) := mt_cd_of (q := (36, .ifCond .ne 14, 3)) mq_71 ci_71 (List.mem_of_getElem? (i := 18) rfl)
theorem cd_71_39 : mt_cd 71 39 = some (.aload_n 0) := mt_cd_of (q := (39, .aload_n 0, 1)) mq_71 ci_71 (List.mem_of_getElem? (i := 19) rfl)
theorem cd_71_40 : mt_cd 71 40 = some (.getfield 67) := mt_cd_of (q := (40, .getfield 67, 3)) mq_71 ci_71 (List.mem_of_getElem? (i := 20) rfl)
theorem cd_71_43 : mt_cd 71 43 = some (.aload_n 0) := mt_cd_of (q := (43, .aload_n 0, 1)) mq_71 ci_71 (List.mem_of_getElem? (i := 21) rfl)
theorem cd_71_44 : mt_cd 71 44 = some (.getfield 71) := mt_cd_of (q := (44, .getfield 71, 3)) mq_71 ci_71 (List.mem_of_getElem? (i := 22) rfl)
theorem cd_71_47 : mt_cd 71 47 = some (.invokevirtual 146) := mt_cd_of (q := (47, .invokevirtual 146, 3)) mq_71 ci_71 (List.mem_of_getElem? (i := 23) rfl)
theorem cd_71_50 : mt_cd 71 50 = some (.aload_n 0) := mt_cd_of (q := (50, .aload_n 0, 1)) mq_71 ci_71 (List.mem_of_getElem? (i := 24) rfl)
theorem cd_71_51 : mt_cd 71 51 = some (.getfield 42) := mt_cd_of (q := (51, .getfield 42, 3)) mq_71 ci_71 (List.mem_of_getElem? (i := 25) rfl)
theorem cd_71_54 : mt_cd 71 54 = some (.iconst 0) := mt_cd_of (q := (54, .iconst 0, 1)) mq_71 ci_71 (List.mem_of_getElem? (i := 26) rfl)
theorem cd_71_55 : mt_cd 71 55 = some (.putfield 91) := mt_cd_of (q := (55, .putfield 91, 3)) mq_71 ci_71 (List.mem_of_getElem? (i := 27) rfl)
theorem cd_71_58 : mt_cd 71 58 = some (.iload 5) := mt_cd_of (q := (58, .iload 5, 2)) mq_71 ci_71 (List.mem_of_getElem? (i := 28) rfl)
theorem cd_71_60 : mt_cd 71 60 = some (.ireturn) := mt_cd_of (q := (60, .ireturn, 1)) mq_71 ci_71 (List.mem_of_getElem? (i := 29) rfl)
theorem b_71_0 {d : Nat} {Q : (Option Value ⊕ Nat) → mi_H → Prop} (n sl : Nat) (f : Nat → mi_C) {l1 : Nat} {l2 : Int64} {l3 : Int64} {o4 : Option Value} {fs5 : List Value} (h6 : f l1 = .inr (0, fs5)) (h7 : l1 < n) (h8 : mi_W d 72 0 (mi_en 1 [.ref l1]) [] (n, sl, f) (mi_Kc d 71 1 [some (.ref l1), some (.long l2), none, some (.long l3), none, o4] [] Q)) : mi_W (d + 1) 71 0 [some (.ref l1), some (.long l2), none, some (.long l3), none, o4] [] (n, sl, f) Q := by
  refine w_aload_n cd_71_0 rfl ?_
  exact w_invokevirtual cd_71_1 (show mt_m 0 143 = some (72, 0) by decide +kernel) (rest := []) rfl (as := [.ref l1]) rfl h6 (Or.inl h7) ⟨Nat.le_of_ble_eq_true rfl, Nat.le_of_ble_eq_true rfl, Nat.le_of_ble_eq_true rfl⟩ h8
theorem b_71_4 {d : Nat} {Q : (Option Value ⊕ Nat) → mi_H → Prop} (n sl : Nat) (f : Nat → mi_C) {l1 : Nat} {l2 : Int64} {l3 : Int64} {o4 : Option Value} {fs5 : List Value} {x8 : Nat} {fs10 : List Value} {x13 : Nat} {fs15 : List Value} (h6 : f l1 = .inr (0, fs5)) (h7 : l1 < n) (h9 : fs5[8]? = some (.ref x8)) (h11 : f l1 = .inr (0, fs10)) (h12 : l1 < n) (h14 : fs10[7]? = some (.ref x13)) (h16 : f x8 = .inr (9, fs15)) (h17 : x8 < n) (h18 : mi_W d 73 0 (mi_en 2 [.ref x8, .ref x13]) [] (n, sl, f) (mi_Kc d 71 12 [some (.ref l1), some (.long l2), none, some (.long l3), none, o4] [] Q)) : mi_W (d + 1) 71 4 [some (.ref l1), some (.long l2), none, some (.long l3), none, o4] [] (n, sl, f) Q := by
  refine w_aload_n cd_71_4 rfl ?_
  refine w_getfield cd_71_5 (show mt_f 0 71 = some (0, 8) by decide +kernel) h6 h7 h9 ?_
  refine w_aload_n cd_71_8 rfl ?_
  refine w_getfield cd_71_9 (show mt_f 0 67 = some (0, 7) by decide +kernel) h11 h12 h14 ?_
  exact w_invokevirtual cd_71_12 (show mt_m 0 146 = some (73, 0) by decide +kernel) (rest := []) rfl (as := [.ref x8, .ref x13]) rfl h16 (Or.inl h17) ⟨Nat.le_of_ble_eq_true rfl, Nat.le_of_ble_eq_true rfl, Nat.le_of_ble_eq_true rfl⟩ h18
theorem b_71_15 {d : Nat} {Q : (Option Value ⊕ Nat) → mi_H → Prop} (n sl : Nat) (f : Nat → mi_C) {l1 : Nat} {l2 : Int64} {l3 : Int64} {o4 : Option Value} {fs5 : List Value} {x8 : Nat} {fs10 : List Value} {x13 : Nat} {fs15 : List Value} {x18 : Nat} {fs20 : List Value} (h6 : f l1 = .inr (0, fs5)) (h7 : l1 < n) (h9 : fs5[5]? = some (.ref x8)) (h11 : f l1 = .inr (0, fs10)) (h12 : l1 < n) (h14 : fs10[8]? = some (.ref x13)) (h16 : f l1 = .inr (0, fs15)) (h17 : l1 < n) (h19 : fs15[4]? = some (.ref x18)) (h21 : f x8 = .inr (7, fs20)) (h22 : x8 < n) (h23 : mi_W d 74 0 (mi_en 8 [.ref x8, .ref x13, .ref x18, .long l2, .long l3]) [] (n, sl, f) (mi_Kc d 71 29 [some (.ref l1), some (.long l2), none, some (.long l3), none, o4] [] Q)) : mi_W (d + 1) 71 15 [some (.ref l1), some (.long l2), none, some (.long l3), none, o4] [] (n, sl, f) Q := by
  refine w_aload_n cd_71_15 rfl ?_
  refine w_getfield cd_71_16 (show mt_f 0 51 = some (0, 5) by decide +kernel) h6 h7 h9 ?_
  refine w_aload_n cd_71_19 rfl ?_
  refine w_getfield cd_71_20 (show mt_f 0 71 = some (0, 8) by decide +kernel) h11 h12 h14 ?_
  refine w_aload_n cd_71_23 rfl ?_
  refine w_getfield cd_71_24 (show mt_f 0 42 = some (0, 4) by decide +kernel) h16 h17 h19 ?_
  refine w_lload_n cd_71_27 rfl ?_
  refine w_lload_n cd_71_28 rfl ?_
  exact w_invokevirtual cd_71_29 (show mt_m 0 150 = some (74, 0) by decide +kernel) (rest := []) rfl (as := [.ref x8, .ref x13, .ref x18, .long l2, .long l3]) rfl h21 (Or.inl h22) ⟨Nat.le_of_ble_eq_true rfl, Nat.le_of_ble_eq_true rfl, Nat.le_of_ble_eq_true rfl⟩ h23
theorem b_71_32 {d : Nat} {Q : (Option Value ⊕ Nat) → mi_H → Prop} (n sl : Nat) (f : Nat → mi_C) {l1 : Nat} {l2 : Int64} {l3 : Int64} {o4 : Option Value} {s5 : Int32} (h6 : ¬ s5 = (0 : Int32) → mi_W d 71 50 [some (.ref l1), some (.long l2), none, some (.long l3), none, some (.int s5)] [] (n, sl, f) Q) (h7 : ¬ (¬ s5 = (0 : Int32)) → mi_W d 71 39 [some (.ref l1), some (.long l2), none, some (.long l3), none, some (.int s5)] [] (n, sl, f) Q) : mi_W d 71 32 [some (.ref l1), some (.long l2), none, some (.long l3), none, o4] [.int s5] (n, sl, f) Q := by
  refine w_istore (ls' := [some (.ref l1), some (.long l2), none, some (.long l3), none, some (.int s5)]) cd_71_32 (Nat.le_of_ble_eq_true rfl) rfl ?_
  refine w_iload cd_71_34 rfl ?_
  exact w_ifne cd_71_36 (by decide) h6 h7
theorem b_71_39 {d : Nat} {Q : (Option Value ⊕ Nat) → mi_H → Prop} (n sl : Nat) (f : Nat → mi_C) {l1 : Nat} {l2 : Int64} {l3 : Int64} {l4 : Int32} {fs5 : List Value} {x8 : Nat} {fs10 : List Value} {x13 : Nat} {fs15 : List Value} (h6 : f l1 = .inr (0, fs5)) (h7 : l1 < n) (h9 : fs5[7]? = some (.ref x8)) (h11 : f l1 = .inr (0, fs10)) (h12 : l1 < n) (h14 : fs10[8]? = some (.ref x13)) (h16 : f x8 = .inr (9, fs15)) (h17 : x8 < n) (h18 : mi_W d 73 0 (mi_en 2 [.ref x8, .ref x13]) [] (n, sl, f) (mi_Kc d 71 47 [some (.ref l1), some (.long l2), none, some (.long l3), none, some (.int l4)] [] Q)) : mi_W (d + 1) 71 39 [some (.ref l1), some (.long l2), none, some (.long l3), none, some (.int l4)] [] (n, sl, f) Q := by
  refine w_aload_n cd_71_39 rfl ?_
  refine w_getfield cd_71_40 (show mt_f 0 67 = some (0, 7) by decide +kernel) h6 h7 h9 ?_
  refine w_aload_n cd_71_43 rfl ?_
  refine w_getfield cd_71_44 (show mt_f 0 71 = some (0, 8) by decide +kernel) h11 h12 h14 ?_
  exact w_invokevirtual cd_71_47 (show mt_m 0 146 = some (73, 0) by decide +kernel) (rest := []) rfl (as := [.ref x8, .ref x13]) rfl h16 (Or.inl h17) ⟨Nat.le_of_ble_eq_true rfl, Nat.le_of_ble_eq_true rfl, Nat.le_of_ble_eq_true rfl⟩ h18
theorem b_71_50 {d : Nat} {Q : (Option Value ⊕ Nat) → mi_H → Prop} (n sl : Nat) (f : Nat → mi_C) {l1 : Nat} {l2 : Int64} {l3 : Int64} {l4 : Int32} {fs5 : List Value} {x8 : Nat} {fs10 : List Value} (h6 : f l1 = .inr (0, fs5)) (h7 : l1 < n) (h9 : fs5[4]? = some (.ref x8)) (h11 : f x8 = .inr (6, fs10)) (h12 : x8 < n) (h13 : 5 < fs10.length) (h14 : Q (.inl (some (.int l4))) (n, sl, (va_up f x8 (.inr (6, fs10.set 5 (.int 0)))))) : mi_W d 71 50 [some (.ref l1), some (.long l2), none, some (.long l3), none, some (.int l4)] [] (n, sl, f) Q := by
  refine w_aload_n cd_71_50 rfl ?_
  refine w_getfield cd_71_51 (show mt_f 0 42 = some (0, 4) by decide +kernel) h6 h7 h9 ?_
  refine w_iconst (v := 0) cd_71_54 (by decide) ?_
  refine w_putfield (w := .int 0) cd_71_55 (show mt_f 0 91 = some (6, 5) by decide +kernel) h11 h12 ⟨h13, rfl, Or.inl (by decide)⟩ ?_
  refine w_iload cd_71_58 rfl ?_
  exact w_ireturn_i cd_71_60 (by decide +kernel) h14
/-! MarloweHost.requireContract()V -/
set_option maxRecDepth 100000 in
theorem mq_72 : mt_q 72 = my_72 := rfl
set_option maxRecDepth 100000 in
theorem ci_72 : mt_inc 0 my_72.cd = true := by decide +kernel
theorem cd_72_0 : mt_cd 72 0 = some (.aload_n 0) := mt_cd_of (q := (0, .aload_n 0, 1)) mq_72 ci_72 (List.mem_of_getElem? (i := 0) rfl)
theorem cd_72_1 : mt_cd 72 1 = some (.getfield 94) := mt_cd_of (q := (1, .getfield 94, 3)) mq_72 ci_72 (List.mem_of_getElem? (i := 1) rfl)
theorem cd_72_4 : mt_cd 72 4 = some (.ifCond .ne 13) := mt_cd_of (q := (4, .ifCond .ne 13, 3)) mq_72 ci_72 (List.mem_of_getElem? (i := 2) rfl)
theorem cd_72_7 : mt_cd 72 7 = some (.new 253) := mt_cd_of (q := (7, .new 253, 3)) mq_72 ci_72 (List.mem_of_getElem? (i := 3) rfl)
theorem cd_72_10 : mt_cd 72 10 = some (.dup) := mt_cd_of (q := (10, .dup, 1)) mq_72 ci_72 (List.mem_of_getElem? (i := 4) rfl)
theorem cd_72_11 : mt_cd 72 11 = some (.ldc 255) := mt_cd_of (q := (11, .ldc 255, 2)) mq_72 ci_72 (List.mem_of_getElem? (i := 5) rfl)
theorem cd_72_13 : mt_cd 72 13 = some (.invokespecial 257) := mt_cd_of (q := (13, .invokespecial 257, 3)) mq_72 ci_72 (List.mem_of_getElem? (i := 6) rfl)
theorem cd_72_16 : mt_cd 72 16 = some (.athrow) := mt_cd_of (q := (16, .athrow, 1)) mq_72 ci_72 (List.mem_of_getElem? (i := 7) rfl)
theorem cd_72_17 : mt_cd 72 17 = some (.return_) := mt_cd_of (q := (17, .return_, 1)) mq_72 ci_72 (List.mem_of_getElem? (i := 8) rfl)
theorem b_72_0 {d : Nat} {Q : (Option Value ⊕ Nat) → mi_H → Prop} (n sl : Nat) (f : Nat → mi_C) {l1 : Nat} {fs2 : List Value} {x5 : Int32} (h3 : f l1 = .inr (0, fs2)) (h4 : l1 < n) (h6 : fs2[9]? = some (.int x5)) (h7 : ¬ x5 = (0 : Int32) → mi_W d 72 17 [some (.ref l1)] [] (n, sl, f) Q) (h8 : ¬ (¬ x5 = (0 : Int32)) → mi_W d 72 7 [some (.ref l1)] [] (n, sl, f) Q) : mi_W d 72 0 [some (.ref l1)] [] (n, sl, f) Q := by
  refine w_aload_n cd_72_0 rfl ?_
  refine w_getfield cd_72_1 (show mt_f 0 94 = some (0, 9) by decide +kernel) h3 h4 h6 ?_
  exact w_ifne cd_72_4 (by decide) h7 h8
theorem b_72_7 {d : Nat} {Q : (Option Value ⊕ Nat) → mi_H → Prop} (n sl : Nat) (f : Nat → mi_C) {l1 : Nat} {h' : mi_H} (h2 : mi_t 72 7 (.new 253) [] (n, sl, f) = some h') (h3 : Q (.inr n) h') : mi_W d 72 7 [some (.ref l1)] [] (n, sl, f) Q := by
  exact w_throw cd_72_7 (show mt_c 0 253 = some 16 by decide +kernel) (by decide) h2 h3
theorem b_72_17 {d : Nat} {Q : (Option Value ⊕ Nat) → mi_H → Prop} (n sl : Nat) (f : Nat → mi_C) {l1 : Nat} (h2 : Q (.inl none) (n, sl, f)) : mi_W d 72 17 [some (.ref l1)] [] (n, sl, f) Q := by
  exact w_return cd_72_17 (by decide +kernel) h2
/-! MarloweHost$Situation.copyFrom(LMarloweHost$Situation;)V -/
set_option maxRecDepth 100000 in
theorem mq_73 : mt_q 73 = my_73 := rfl
set_option maxRecDepth 100000 in
theorem ci_73 : mt_inc 0 my_73.cd = true := by decide +kernel
theorem cd_73_0 : mt_cd 73 0 = some (.aload_n 0) := mt_cd_of (q := (0, .aload_n 0, 1)) mq_73 ci_73 (List.mem_of_getElem? (i := 0) rfl)
theorem cd_73_1 : mt_cd 73 1 = some (.aload_n 1) := mt_cd_of (q := (1, .aload_n 1, 1)) mq_73 ci_73 (List.mem_of_getElem? (i := 1) rfl)
theorem cd_73_2 : mt_cd 73 2 = some (.getfield 21) := mt_cd_of (q := (2, .getfield 21, 3)) mq_73 ci_73 (List.mem_of_getElem? (i := 2) rfl)
theorem cd_73_5 : mt_cd 73 5 = some (.putfield 21) := mt_cd_of (q := (5, .putfield 21, 3)) mq_73 ci_73 (List.mem_of_getElem? (i := 3) rfl)
theorem cd_73_8 : mt_cd 73 8 = some (.aload_n 0) := mt_cd_of (q := (8, .aload_n 0, 1)) mq_73 ci_73 (List.mem_of_getElem? (i := 4) rfl)
theorem cd_73_9 : mt_cd 73 9 = some (.aload_n 1) := mt_cd_of (q := (9, .aload_n 1, 1)) mq_73 ci_73 (List.mem_of_getElem? (i := 5) rfl)
theorem cd_73_10 : mt_cd 73 10 = some (.getfield 25) := mt_cd_of (q := (10, .getfield 25, 3)) mq_73 ci_73 (List.mem_of_getElem? (i := 6) rfl)
theorem cd_73_13 : mt_cd 73 13 = some (.putfield 25) := mt_cd_of (q := (13, .putfield 25, 3)) mq_73 ci_73 (List.mem_of_getElem? (i := 7) rfl)
theorem cd_73_16 : mt_cd 73 16 = some (.aload_n 1) := mt_cd_of (q := (16, .aload_n 1, 1)) mq_73 ci_73 (List.mem_of_getElem? (i := 8) rfl)
theorem cd_73_17 : mt_cd 73 17 = some (.getfield 9) := mt_cd_of (q := (17, .getfield 9, 3)) mq_73 ci_73 (List.mem_of_getElem? (i := 9) rfl)
theorem cd_73_20 : mt_cd 73 20 = some (.iconst 0) := mt_cd_of (q := (20, .iconst 0, 1)) mq_73 ci_73 (List.mem_of_getElem? (i := 10) rfl)
theorem cd_73_21 : mt_cd 73 21 = some (.aload_n 0) := mt_cd_of (q := (21, .aload_n 0, 1)) mq_73 ci_73 (List.mem_of_getElem? (i := 11) rfl)
theorem cd_73_22 : mt_cd 73 22 = some (.getfield 9) := mt_cd_of (q := (22, .getfield 9, 3)) mq_73 ci_73 (List.mem_of_getElem? (i := 12) rfl)
theorem cd_73_25 : mt_cd 73 25 = some (.iconst 0) := mt_cd_of (q := (25, .iconst 0, 1)) mq_73 ci_73 (List.mem_of_getElem? (i := 13) rfl)
theorem cd_73_26 : mt_cd 73 26 = some (.bipush 32) := mt_cd_of (q := (26, .bipush 32, 2)) mq_73 ci_73 (List.mem_of_getElem? (i := 14) rfl)
theorem cd_73_28 : mt_cd 73 28 = some (.invokestatic 41) := mt_cd_of (q := (28, .invokestatic 41, 3)) mq_73 ci_73 (List.mem_of_getElem? (i := 15) rfl)
theorem cd_73_31 : mt_cd 73 31 = some (.aload_n 1) := mt_cd_of (q := (31, .aload_n 1, 1)) mq_73 ci_73 (List.mem_of_getElem? (i := 16) rfl)
theorem cd_73_32 : mt_cd 73 32 = some (.getfield 15) := mt_cd_of (q := (32, .getfield 15, 3)) mq_73 ci_73 (List.mem_of_getElem? (i := 17) rfl)
theorem cd_73_35 : mt_cd 73 35 = some (.iconst 0) := mt_cd_of (q := (35, .iconst 0, 1)) mq_73 ci_73 (List.mem_of_getElem? (i := 18) rfl)
theorem cd_73_36 : mt_cd 73 36 = some (.aload_n 0) := mt_cd_of (q := (36, .aload_n 0, 1)) mq_73 ci_73 (List.mem_of_getElem? (i := 19) rfl)
theorem cd_73_37 : mt_cd 73 37 = some (.getfield 15) := mt_cd_of (q := (37, .getfield 15, 3)) mq_73 ci_73 (List.mem_of_getElem? (i := 20) rfl)
theorem cd_73_40 : mt_cd 73 40 = some (.iconst 0) := mt_cd_of (q := (40, .iconst 0, 1)) mq_73 ci_73 (List.mem_of_getElem? (i := 21) rfl)
theorem cd_73_41 : mt_cd 73 41 = some (.bipush 8) := mt_cd_of (q := (41, .bipush 8, 2)) mq_73 ci_73 (List.mem_of_getElem? (i := 22) rfl)
theorem cd_73_43 : mt_cd 73 43 = some (.invokestatic 41) := mt_cd_of (q := (43, .invokestatic 41, 3)) mq_73 ci_73 (List.mem_of_getElem? (i := 23) rfl)
theorem cd_73_46 : mt_cd 73 46 = some (.aload_n 1) := mt_cd_of (q := (46, .aload_n 1, 1)) mq_73 ci_73 (List.mem_of_getElem? (i := 24) rfl)
theorem cd_73_47 : mt_cd 73 47 = some (.getfield 18) := mt_cd_of (q := (47, .getfield 18, 3)) mq_73 ci_73 (List.mem_of_getElem? (i := 25) rfl)
theorem cd_73_50 : mt_cd 73 50 = some (.iconst 0) := mt_cd_of (q := (50, .iconst 0, 1)) mq_73 ci_73 (List.mem_of_getElem? (i := 26) rfl)
theorem cd_73_51 : mt_cd 73 51 = some (.aload_n 0) := mt_cd_of (q := (51, .aload_n 0, 1)) mq_73 ci_73 (List.mem_of_getElem? (i := 27) rfl)
theorem cd_73_52 : mt_cd 73 52 = some (.getfield 18) := mt_cd_of (q := (52, .getfield 18, 3)) mq_73 ci_73 (List.mem_of_getElem? (i := 28) rfl)
theorem cd_73_55 : mt_cd 73 55 = some (.iconst 0) := mt_cd_of (q := (55, .iconst 0, 1)) mq_73 ci_73 (List.mem_of_getElem? (i := 29) rfl)
theorem cd_73_56 : mt_cd 73 56 = some (.bipush 8) := mt_cd_of (q := (56, .bipush 8, 2)) mq_73 ci_73 (List.mem_of_getElem? (i := 30) rfl)
theorem cd_73_58 : mt_cd 73 58 = some (.invokestatic 41) := mt_cd_of (q := (58, .invokestatic 41, 3)) mq_73 ci_73 (List.mem_of_getElem? (i := 31) rfl)
theorem cd_73_61 : mt_cd 73 61 = some (.aload_n 0) := mt_cd_of (q := (61, .aload_n 0, 1)) mq_73 ci_73 (List.mem_of_getElem? (i := 32) rfl)
theorem cd_73_62 : mt_cd 73 62 = some (.aload_n 1) := mt_cd_of (q := (62, .aload_n 1, 1)) mq_73 ci_73 (List.mem_of_getElem? (i := 33) rfl)
theorem cd_73_63 : mt_cd 73 63 = some (.getfield 35) := mt_cd_of (q := (63, .getfield 35, 3)) mq_73 ci_73 (List.mem_of_getElem? (i := 34) rfl)
theorem cd_73_66 : mt_cd 73 66 = some (.putfield 35) := mt_cd_of (q := (66, .putfield 35, 3)) mq_73 ci_73 (List.mem_of_getElem? (i := 35) rfl)
theorem cd_73_69 : mt_cd 73 69 = some (.aload_n 0) := mt_cd_of (q := (69, .aload_n 0, 1)) mq_73 ci_73 (List.mem_of_getElem? (i := 36) rfl)
theorem cd_73_70 : mt_cd 73 70 = some (.aload_n 1) := mt_cd_of (q := (70, .aload_n 1, 1)) mq_73 ci_73 (List.mem_of_getElem? (i := 37) rfl)
theorem cd_73_71 : mt_cd 73 71 = some (.getfield 38) := mt_cd_of (q := (71, .getfield 38, 3)) mq_73 ci_73 (List.mem_of_getElem? (i := 38) rfl)
theorem cd_73_74 : mt_cd 73 74 = some (.putfield 38) := mt_cd_of (q := (74, .putfield 38, 3)) mq_73 ci_73 (List.mem_of_getElem? (i := 39) rfl)
theorem cd_73_77 : mt_cd 73 77 = some (.return_) := mt_cd_of (q := (77, .return_, 1)) mq_73 ci_73 (List.mem_of_getElem? (i := 40) rfl)
theorem b_73_0 {d : Nat} {Q : (Option Value ⊕ Nat) → mi_H → Prop} (n sl : Nat) (f : Nat → mi_C) {l1 : Nat} {l2 : Nat} {fs3 : List Value} {x6 : Int32} {fs8 : List Value} {fs12 : List Value} {x15 : Int64} {fs17 : List Value} {fs21 : List Value} {x24 : Nat} {fs26 : List Value} {x29 : Nat} (m31 k31 : Nat) (g31 e31 : Nat → Int64) {fs37 : List Value} {x40 : Nat} {fs42 : List Value} {x45 : Nat} (m47 k47 : Nat) (g47 e47 : Nat → Int64) {fs53 : List Value} {x56 : Nat} {fs58 : List Value} {x61 : Nat} (m63 k63 : Nat) (g63 e63 : Nat → Int64) {fs69 : List Value} {x72 : Int32} {fs74 : List Value} (h4 : f l2 = .inr (9, fs3)) (h5 : l2 < n) (h7 : fs3[0]? = some (.int x6)) (h9 : f l1 = .inr (9, fs8)) (h10 : l1 < n) (h11 : 0 < fs8.length) (h13 : (va_up f l1 (.inr (9, fs8.set 0 (.int x6)))) l2 = .inr (9, fs12)) (h14 : l2 < n) (h16 : fs12[1]? = some (.long x15)) (h18 : (va_up f l1 (.inr (9, fs8.set 0 (.int x6)))) l1 = .inr (9, fs17)) (h19 : l1 < n) (h20 : 1 < fs17.length) (h22 : (va_up (va_up f l1 (.inr (9, fs8.set 0 (.int x6)))) l1 (.inr (9, fs17.set 1 (.long x15)))) l2 = .inr (9, fs21)) (h23 : l2 < n) (h25 : fs21[2]? = some (.ref x24)) (h27 : (va_up (va_up f l1 (.inr (9, fs8.set 0 (.int x6)))) l1 (.inr (9, fs17.set 1 (.long x15)))) l1 = .inr (9, fs26)) (h28 : l1 < n) (h30 : fs26[2]? = some (.ref x29)) (h32 : (va_up (va_up f l1 (.inr (9, fs8.set 0 (.int x6)))) l1 (.inr (9, fs17.set 1 (.long x15)))) x24 = .inl (3, m31, .inr (.inl g31))) (h33 : x24 < n) (h34 : (va_up (va_up f l1 (.inr (9, fs8.set 0 (.int x6)))) l1 (.inr (9, fs17.set 1 (.long x15)))) x29 = .inl (3, k31, .inr (.inl e31))) (h35 : x29 < n) (h36 : ¬ (0 : Int32) < 0 ∧ ¬ (0 : Int32) < 0 ∧ ¬ (32 : Int32) < 0 ∧ (0 : Int32).toNatClampNeg + (32 : Int32).toNatClampNeg ≤ m31 ∧ (0 : Int32).toNatClampNeg + (32 : Int32).toNatClampNeg ≤ k31) (h38 : (va_up (va_up (va_up f l1 (.inr (9, fs8.set 0 (.int x6)))) l1 (.inr (9, fs17.set 1 (.long x15)))) x29 (.inl (3, k31, .inr (.inl (va_cpy g31 e31 (0 : Int32).toNatClampNeg (0 : Int32).toNatClampNeg (32 : Int32).toNatClampNeg))))) l2 = .inr (9, fs37)) (h39 : l2 < n) (h41 : fs37[3]? = some (.ref x40)) (h43 : (va_up (va_up (va_up f l1 (.inr (9, fs8.set 0 (.int x6)))) l1 (.inr (9, fs17.set 1 (.long x15)))) x29 (.inl (3, k31, .inr (.inl (va_cpy g31 e31 (0 : Int32).toNatClampNeg (0 : Int32).toNatClampNeg (32 : Int32).toNatClampNeg))))) l1 = .inr (9, fs42)) (h44 : l1 < n) (h46 : fs42[3]? = some (.ref x45)) (h48 : (va_up (va_up (va_up f l1 (.inr (9, fs8.set 0 (.int x6)))) l1 (.inr (9, fs17.set 1 (.long x15)))) x29 (.inl (3, k31, .inr (.inl (va_cpy g31 e31 (0 : Int32).toNatClampNeg (0 : Int32).toNatClampNeg (32 : Int32).toNatClampNeg))))) x40 = .inl (3, m47, .inr (.inl g47))) (h49 : x40 < n) (h50 : (va_up (va_up (va_up f l1 (.inr (9, fs8.set 0 (.int x6)))) l1 (.inr (9, fs17.set 1 (.long x15)))) x29 (.inl (3, k31, .inr (.inl (va_cpy g31 e31 (0 : Int32).toNatClampNeg (0 : Int32).toNatClampNeg (32 : Int32).toNatClampNeg))))) x45 = .inl (3, k47, .inr (.inl e47))) (h51 : x45 < n) (h52 : ¬ (0 : Int32) < 0 ∧ ¬ (0 : Int32) < 0 ∧ ¬ (8 : Int32) < 0 ∧ (0 : Int32).toNatClampNeg + (8 : Int32).toNatClampNeg ≤ m47 ∧ (0 : Int32).toNatClampNeg + (8 : Int32).toNatClampNeg ≤ k47) (h54 : (va_up (va_up (va_up (va_up f l1 (.inr (9, fs8.set 0 (.int x6)))) l1 (.inr (9, fs17.set 1 (.long x15)))) x29 (.inl (3, k31, .inr (.inl (va_cpy g31 e31 (0 : Int32).toNatClampNeg (0 : Int32).toNatClampNeg (32 : Int32).toNatClampNeg))))) x45 (.inl (3, k47, .inr (.inl (va_cpy g47 e47 (0 : Int32).toNatClampNeg (0 : Int32).toNatClampNeg (8 : Int32).toNatClampNeg))))) l2 = .inr (9, fs53)) (h55 : l2 < n) (h57 : fs53[4]? = some (.ref x56)) (h59 : (va_up (va_up (va_up (va_up f l1 (.inr (9, fs8.set 0 (.int x6)))) l1 (.inr (9, fs17.set 1 (.long x15)))) x29 (.inl (3, k31, .inr (.inl (va_cpy g31 e31 (0 : Int32).toNatClampNeg (0 : Int32).toNatClampNeg (32 : Int32).toNatClampNeg))))) x45 (.inl (3, k47, .inr (.inl (va_cpy g47 e47 (0 : Int32).toNatClampNeg (0 : Int32).toNatClampNeg (8 : Int32).toNatClampNeg))))) l1 = .inr (9, fs58)) (h60 : l1 < n) (h62 : fs58[4]? = some (.ref x61)) (h64 : (va_up (va_up (va_up (va_up f l1 (.inr (9, fs8.set 0 (.int x6)))) l1 (.inr (9, fs17.set 1 (.long x15)))) x29 (.inl (3, k31, .inr (.inl (va_cpy g31 e31 (0 : Int32).toNatClampNeg (0 : Int32).toNatClampNeg (32 : Int32).toNatClampNeg))))) x45 (.inl (3, k47, .inr (.inl (va_cpy g47 e47 (0 : Int32).toNatClampNeg (0 : Int32).toNatClampNeg (8 : Int32).toNatClampNeg))))) x56 = .inl (3, m63, .inr (.inl g63))) (h65 : x56 < n) (h66 : (va_up (va_up (va_up (va_up f l1 (.inr (9, fs8.set 0 (.int x6)))) l1 (.inr (9, fs17.set 1 (.long x15)))) x29 (.inl (3, k31, .inr (.inl (va_cpy g31 e31 (0 : Int32).toNatClampNeg (0 : Int32).toNatClampNeg (32 : Int32).toNatClampNeg))))) x45 (.inl (3, k47, .inr (.inl (va_cpy g47 e47 (0 : Int32).toNatClampNeg (0 : Int32).toNatClampNeg (8 : Int32).toNatClampNeg))))) x61 = .inl (3, k63, .inr (.inl e63))) (h67 : x61 < n) (h68 : ¬ (0 : Int32) < 0 ∧ ¬ (0 : Int32) < 0 ∧ ¬ (8 : Int32) < 0 ∧ (0 : Int32).toNatClampNeg + (8 : Int32).toNatClampNeg ≤ m63 ∧ (0 : Int32).toNatClampNeg + (8 : Int32).toNatClampNeg ≤ k63) (h70 : (va_up (va_up (va_up (va_up (va_up f l1 (.inr (9, fs8.set 0 (.int x6)))) l1 (.inr (9, fs17.set 1 (.long x15)))) x29 (.inl (3, k31, .inr (.inl (va_cpy g31 e31 (0 : Int32).toNatClampNeg (0 : Int32).toNatClampNeg (32 : Int32).toNatClampNeg))))) x45 (.inl (3, k47, .inr (.inl (va_cpy g47 e47 (0 : Int32).toNatClampNeg (0 : Int32).toNatClampNeg (8 : Int32).toNatClampNeg))))) x61 (.inl (3, k63, .inr (.inl (va_cpy g63 e63 (0 : Int32).toNatClampNeg (0 : Int32).toNatClampNeg (8 : Int32).toNatClampNeg))))) l2 = .inr (9, fs69)) (h71 : l2 < n) (h73 : fs69[5]? = some (.int x72)) (h75 : (va_up (va_up (va_up (va_up (va_up f l1 (.inr (9, fs8.set 0 (.int x6)))) l1 (.inr (9, fs17.set 1 (.long x15)))) x29 (.inl (3, k31, .inr (.inl (va_cpy g31 e31 (0 : Int32).toNatClampNeg (0 : Int32).toNatClampNeg (32 : Int32).toNatClampNeg))))) x45 (.inl (3, k47, .inr (.inl (va_cpy g47 e47 (0 : Int32).toNatClampNeg (0 : Int32).toNatClampNeg (8 : Int32).toNatClampNeg))))) x61 (.inl (3, k63, .inr (.inl (va_cpy g63 e63 (0 : Int32).toNatClampNeg (0 : Int32).toNatClampNeg (8 : Int32).toNatClampNeg))))) l1 = .inr (9, fs74)) (h76 : l1 < n) (h77 : 5 < fs74.length) (h78 : mi_W d 73 69 [some (.ref l1), some (.ref l2)] [] (n, sl, (va_up (va_up (va_up (va_up (va_up (va_up f l1 (.inr (9, fs8.set 0 (.int x6)))) l1 (.inr (9, fs17.set 1 (.long x15)))) x29 (.inl (3, k31, .inr (.inl (va_cpy g31 e31 (0 : Int32).toNatClampNeg (0 : Int32).toNatClampNeg (32 : Int32).toNatClampNeg))))) x45 (.inl (3, k47, .inr (.inl (va_cpy g47 e47 (0 : Int32).toNatClampNeg (0 : Int32).toNatClampNeg (8 : Int32).toNatClampNeg))))) x61 (.inl (3, k63, .inr (.inl (va_cpy g63 e63 (0 : Int32).toNatClampNeg (0 : Int32).toNatClampNeg (8 : Int32).toNatClampNeg))))) l1 (.inr (9, fs74.set 5 (.int x72))))) Q) : mi_W d 73 0 [some (.ref l1), some (.ref l2)] [] (n, sl, f) Q := by
  refine w_aload_n cd_73_0 rfl ?_
  refine w_aload_n cd_73_1 rfl ?_
  refine w_getfield cd_73_2 (show mt_f 9 21 = some (9, 0) by decide +kernel) h4 h5 h7 ?_
  refine w_putfield (w := .int x6) cd_73_5 (show mt_f 9 21 = some (9, 0) by decide +kernel) h9 h10 ⟨h11, rfl, Or.inl (by decide)⟩ ?_
  refine w_aload_n cd_73_8 rfl ?_
  refine w_aload_n cd_73_9 rfl ?_
  refine w_getfield cd_73_10 (show mt_f 9 25 = some (9, 1) by decide +kernel) h13 h14 h16 ?_
  refine w_putfield (w := .long x15) cd_73_13 (show mt_f 9 25 = some (9, 1) by decide +kernel) h18 h19 ⟨h20, rfl, Or.inl (by decide)⟩ ?_
  refine w_aload_n cd_73_16 rfl ?_
  refine w_getfield cd_73_17 (show mt_f 9 9 = some (9, 2) by decide +kernel) h22 h23 h25 ?_
  refine w_iconst (v := 0) cd_73_20 (by decide) ?_
  refine w_aload_n cd_73_21 rfl ?_
  refine w_getfield cd_73_22 (show mt_f 9 9 = some (9, 2) by decide +kernel) h27 h28 h30 ?_
  refine w_iconst (v := 0) cd_73_25 (by decide) ?_
  refine w_bipush (v := 32) cd_73_26 (by decide) ?_
  refine w_arraycopy cd_73_28 (by decide) h32 h33 h34 h35 (Nat.le_of_ble_eq_true rfl) h36 ?_
  refine w_aload_n cd_73_31 rfl ?_
  refine w_getfield cd_73_32 (show mt_f 9 15 = some (9, 3) by decide +kernel) h38 h39 h41 ?_
  refine w_iconst (v := 0) cd_73_35 (by decide) ?_
  refine w_aload_n cd_73_36 rfl ?_
  refine w_getfield cd_73_37 (show mt_f 9 15 = some (9, 3) by decide +kernel) h43 h44 h46 ?_
  refine w_iconst (v := 0) cd_73_40 (by decide) ?_
  refine w_bipush (v := 8) cd_73_41 (by decide) ?_
  refine w_arraycopy cd_73_43 (by decide) h48 h49 h50 h51 (Nat.le_of_ble_eq_true rfl) h52 ?_
  refine w_aload_n cd_73_46 rfl ?_
  refine w_getfield cd_73_47 (show mt_f 9 18 = some (9, 4) by decide +kernel) h54 h55 h57 ?_
  refine w_iconst (v := 0) cd_73_50 (by decide) ?_
  refine w_aload_n cd_73_51 rfl ?_
  refine w_getfield cd_73_52 (show mt_f 9 18 = some (9, 4) by decide +kernel) h59 h60 h62 ?_
  refine w_iconst (v := 0) cd_73_55 (by decide) ?_
  refine w_bipush (v := 8) cd_73_56 (by decide) ?_
  refine w_arraycopy cd_73_58 (by decide) h64 h65 h66 h67 (Nat.le_of_ble_eq_true rfl) h68 ?_
  refine w_aload_n cd_73_61 rfl ?_
  refine w_aload_n cd_73_62 rfl ?_
  refine w_getfield cd_73_63 (show mt_f 9 35 = some (9, 5) by decide +kernel) h70 h71 h73 ?_
  refine w_putfield (w := .int x72) cd_73_66 (show mt_f 9 35 = some (9, 5) by decide +kernel) h75 h76 ⟨h77, rfl, Or.inl (by decide)⟩ ?_
  exact h78
theorem b_73_69 {d : Nat} {Q : (Option Value ⊕ Nat) → mi_H → Prop} (n sl : Nat) (f : Nat → mi_C) {l1 : Nat} {l2 : Nat} {fs3 : List Value} {x6 : Int32} {fs8 : List Value} (h4 : f l2 = .inr (9, fs3)) (h5 : l2 < n) (h7 : fs3[6]? = some (.int x6)) (h9 : f l1 = .inr (9, fs8)) (h10 : l1 < n) (h11 : 6 < fs8.length) (h12 : Q (.inl none) (n, sl, (va_up f l1 (.inr (9, fs8.set 6 (.int x6)))))) : mi_W d 73 69 [some (.ref l1), some (.ref l2)] [] (n, sl, f) Q := by
  refine w_aload_n cd_73_69 rfl ?_
  refine w_aload_n cd_73_70 rfl ?_
  refine w_getfield cd_73_71 (show mt_f 9 38 = some (9, 6) by decide +kernel) h4 h5 h7 ?_
  refine w_putfield (w := .int x6) cd_73_74 (show mt_f 9 38 = some (9, 6) by decide +kernel) h9 h10 ⟨h11, rfl, Or.inl (by decide)⟩ ?_
  exact w_return cd_73_77 (by decide +kernel) h12
/-! MarloweHost$Machine.run(LMarloweHost$Situation;LMarloweHost$Inputs;JJ)I -/
set_option maxRecDepth 100000 in
theorem mq_74 : mt_q 74 = my_74 := rfl
set_option maxRecDepth 100000 in
theorem ci_74 : mt_inc 0 my_74.cd = true := by decide +kernel
theorem cd_74_0 : mt_cd 74 0 = some (.aload_n 0) := mt_cd_of (q := (0, .aload_n 0, 1)) mq_74 ci_74 (List.mem_of_getElem? (i := 0) rfl)
theorem cd_74_1 : mt_cd 74 1 = some (.getfield 12) := mt_cd_of (q := (1, .getfield 12, 3)) mq_74 ci_74 (List.mem_of_getElem? (i := 1) rfl)
theorem cd_74_4 : mt_cd 74 4 = some (.invokevirtual 42) := mt_cd_of (q := (4, .invokevirtual 42, 3)) mq_74 ci_74 (List.mem_of_getElem? (i := 2) rfl)
theorem cd_74_7 : mt_cd 74 7 = some (.aload_n 0) := mt_cd_of (q := (7, .aload_n 0, 1)) mq_74 ci_74 (List.mem_of_getElem? (i := 3) rfl)
theorem cd_74_8 : mt_cd 74 8 = some (.lload 5) := mt_cd_of (q := (8, .lload 5, 2)) mq_74 ci_74 (List.mem_of_getElem? (i := 4) rfl)
theorem cd_74_10 : mt_cd 74 10 = some (.lload_n 3) := mt_cd_of (q := (10, .lload_n 3, 1)) mq_74 ci_74 (List.mem_of_getElem? (i := 5) rfl)
theorem cd_74_11 : mt_cd 74 11 = some (.lcmp) := mt_cd_of (q := (11, .lcmp, 1)) mq_74 ci_74 (List.mem_of_getElem? (i := 6) rfl)
theorem cd_74_12 : mt_cd 74 12 = some (.ifCond .ge 7) := mt_cd_of (q := (12, .ifCond .ge 7, 3)) mq_74 ci_74 (List.mem_of_getElem? (i := 7) rfl)
theorem cd_74_15 : mt_cd 74 15 = some (.iconst 1) := mt_cd_of (q := (15, .iconst 1, 1)) mq_74 ci_74 (List.mem_of_getElem? (i := 8) rfl)
theorem cd_74_16 : mt_cd 74 16 = some (.goto 18) := mt_cd_of (q := (16, .goto 18, 3)) mq_74 ci_74 (List.mem_of_getElem? (i := 9) rfl)
theorem cd_74_19 : mt_cd 74 19 = some (.lload 5) := mt_cd_of (q := (19, .lload 5, 2)) mq_74 ci_74 (List.mem_of_getElem? (i := 10) rfl)
theorem cd_74_21 : mt_cd 74 21 = some (.aload_n 1) := mt_cd_of (q := (21, .aload_n 1, 1)) mq_74 ci_74 (List.mem_of_getElem? (i := 11) rfl)
theorem cd_74_22 : mt_cd 74 22 = some (.getfield 45) := mt_cd_of (q := (22, .getfield 45, 3)) mq_74 ci_74 (List.mem_of_getElem? (i := 12) rfl)
theorem cd_74_25 : mt_cd 74 25 = some (.lcmp) := mt_cd_of (q := (25, .lcmp, 1)) mq_74 ci_74 (List.mem_of_getElem? (i := 13) rfl)
theorem cd_74_26 : mt_cd 74 26 = some (.ifCond .ge 7) := mt_cd_of (q := (26, .ifCond .ge 7, 3)) mq_74 ci_74 (List.mem_of_getElem? (i := 14) rfl)
theorem cd_74_29 : mt_cd 74 29 = some (.iconst 2) := mt_cd_of (q := (29, .iconst 2, 1)) mq_74 ci_74 (List.mem_of_getElem? (i := 15) rfl)
theorem cd_74_30 : mt_cd 74 30 = some (.goto 4) := mt_cd_of (q := (30, .goto 4, 3)) mq_74 ci_74 (List.mem_of_getElem? (i := 16) rfl)
theorem cd_74_33 : mt_cd 74 33 = some (.iconst 0) := mt_cd_of (q := (33, .iconst 0, 1)) mq_74 ci_74 (List.mem_of_getElem? (i := 17) rfl)
theorem cd_74_34 : mt_cd 74 34 = some (.putfield 49) := mt_cd_of (q := (34, .putfield 49, 3)) mq_74 ci_74 (List.mem_of_getElem? (i := 18) rfl)
theorem cd_74_37 : mt_cd 74 37 = some (.aload_n 0) := mt_cd_of (q := (37, .aload_n 0, 1)) mq_74 ci_74 (List.mem_of_getElem? (i := 19) rfl)
theorem cd_74_38 : mt_cd 74 38 = some (.getfield 49) := mt_cd_of (q := (38, .getfield 49, 3)) mq_74 ci_74 (List.mem_of_getElem? (i := 20) rfl)
theorem cd_74_41 : mt_cd 74 41 = some (.ifCond .ne 48) := mt_cd_of (q := (41, .ifCond .ne 48, 3)) mq_74 ci_74 (List.mem_of_getElem? (i := 21) rfl)
theorem cd_74_44 : mt_cd 74 44 = some (.aload_n 0) := mt_cd_of (q := (44, .aload_n 0, 1)) mq_74 ci_74 (List.mem_of_getElem? (i := 22) rfl)
theorem cd_74_45 : mt_cd 74 45 = some (.aload_n 1) := mt_cd_of (q := (45, .aload_n 1, 1)) mq_74 ci_74 (List.mem_of_getElem? (i := 23) rfl)
theorem cd_74_46 : mt_cd 74 46 = some (.lload_n 3) := mt_cd_of (q := (46, .lload_n 3, 1)) mq_74 ci_74 (List.mem_of_getElem? (i := 24) rfl)
theorem cd_74_47 : mt_cd 74 47 = some (.aload_n 1) := mt_cd_of (q := (47, .aload_n 1, 1)) mq_74 ci_74 (List.mem_of_getElem? (i := 25) rfl)
theorem cd_74_48 : mt_cd 74 48 = some (.getfield 45) := mt_cd_of (q := (48, .getfield 45, 3)) mq_74 ci_74 (List.mem_of_getElem? (i := 26) rfl)
theorem cd_74_51 : mt_cd 74 51 = some (.invokestatic 53) := mt_cd_of (q := (51, .invokestatic 53, 3)) mq_74 ci_74 (List.mem_of_getElem? (i := 27) rfl)
theorem cd_74_54 : mt_cd 74 54 = some (.lload 5) := mt_cd_of (q := (54, .lload 5, 2)) mq_74 ci_74 (List.mem_of_getElem? (i := 28) rfl)
theorem cd_74_56 : mt_cd 74 56 = some (.invokevirtual 59) := mt_cd_of (q := (56, .invokevirtual 59, 3)) mq_74 ci_74 (List.mem_of_getElem? (i := 29) rfl)
theorem cd_74_59 : mt_cd 74 59 = some (.aload_n 0) := mt_cd_of (q := (59, .aload_n 0, 1)) mq_74 ci_74 (List.mem_of_getElem? (i := 30) rfl)
theorem cd_74_60 : mt_cd 74 60 = some (.invokevirtual 63) := mt_cd_of (q := (60, .invokevirtual 63, 3)) mq_74 ci_74 (List.mem_of_getElem? (i := 31) rfl)
theorem cd_74_63 : mt_cd 74 63 = some (.istore 7) := mt_cd_of (q := (63, .istore 7, 2)) mq_74 ci_74 (List.mem_of_getElem? (i := 32) rfl)
theorem cd_74_65 : mt_cd 74 65 = some (.aload_n 0) := mt_cd_of (q := (65, .aload_n 0, 1)) mq_74 ci_74 (List.mem_of_getElem? (i := 33) rfl)
theorem cd_74_66 : mt_cd 74 66 = some (.getfield 49) := mt_cd_of (q := (66, .getfield 49, 3)) mq_74 ci_74 (List.mem_of_getElem? (i := 34) rfl)
theorem cd_74_69 : mt_cd 74 69 = some (.ifCond .ne 20) := mt_cd_of (q := (69, .ifCond .ne 20, 3)) mq_74 ci_74 (List.mem_of_getElem? (i := 35) rfl)
theorem cd_74_72 : mt_cd 74 72 = some (.aload_n 2) := mt_cd_of (q := (72, .aload_n 2, 1)) mq_74 ci_74 (List.mem_of_getElem? (i := 36) rfl)
theorem cd_74_73 : mt_cd 74 73 = some (.getfield 67) := mt_cd_of (q := (73, .getfield 67, 3)) mq_74 ci_74 (List.mem_of_getElem? (i := 37) rfl)
theorem cd_74_76 : mt_cd 74 76 = some (.ifCond .ne 13) := mt_cd_of (q := (76, .ifCond .ne 13, 3)) mq_74 ci_74 (List.mem_of_getElem? (i := 38) rfl)
theorem cd_74_79 : mt_cd 74 79 = some (.iload 7) := mt_cd_of (q := (79, .iload 7, 2)) mq_74 ci_74 (List.mem_of_getElem? (i := 39) rfl)
theorem cd_74_81 : mt_cd 74 81 = some (.ifCond .ne 8) := mt_cd_of (q := (81, .ifCond .ne 8, 3)) mq_74 ci_74 (List.mem_of_getElem? (i := 40) rfl)
theorem cd_74_84 : mt_cd 74 84 = some (.aload_n 0) := mt_cd_of (q := (84, .aload_n 0, 1)) mq_74 ci_74 (List.mem_of_getElem? (i := 41) rfl)
theorem cd_74_85 : mt_cd 74 85 = some (.iconst 5) := mt_cd_of (q := (85, .iconst 5, 1)) mq_74 ci_74 (List.mem_of_getElem? (i := 42) rfl)
theorem cd_74_86 : mt_cd 74 86 = some (.putfield 49) := mt_cd_of (q := (86, .putfield 49, 3)) mq_74 ci_74 (List.mem_of_getElem? (i := 43) rfl)
theorem cd_74_89 : mt_cd 74 89 = some (.iconst 0) := mt_cd_of (q := (89, .iconst 0, 1)) mq_74 ci_74 (List.mem_of_getElem? (i := 44) rfl)
theorem cd_74_90 : mt_cd 74 90 = some (.istore 7) := mt_cd_of (q := (90, .istore 7, 2)) mq_74 ci_74 (List.mem_of_getElem? (i := 45) rfl)
theorem cd_74_92 : mt_cd 74 92 = some (.iload 7) := mt_cd_of (q := (92, .iload 7, 2)) mq_74 ci_74 (List.mem_of_getElem? (i := 46) rfl)
theorem cd_74_94 : mt_cd 74 94 = some (.aload_n 2) := mt_cd_of (q := (94, .aload_n 2, 1)) mq_74 ci_74 (List.mem_of_getElem? (i := 47) rfl)
theorem cd_74_95 : mt_cd 74 95 = some (.getfield 67) := mt_cd_of (q := (95, .getfield 67, 3)) mq_74 ci_74 (List.mem_of_getElem? (i := 48) rfl)
theorem cd_74_98 : mt_cd 74 98 = some (.if_icmp .ge 35) := mt_cd_of (q := (98, .if_icmp .ge 35, 3)) mq_74 ci_74 (List.mem_of_getElem? (i := 49) rfl)
theorem cd_74_101 : mt_cd 74 101 = some (.iload 7) := mt_cd_of (q := (101, .iload 7, 2)) mq_74 ci_74 (List.mem_of_getElem? (i := 50) rfl)
theorem cd_74_103 : mt_cd 74 103 = some (.bipush 16) := mt_cd_of (q := (103, .bipush 16, 2)) mq_74 ci_74 (List.mem_of_getElem? (i := 51) rfl)
theorem cd_74_105 : mt_cd 74 105 = some (.if_icmp .ge 28) := mt_cd_of (q := (105, .if_icmp .ge 28, 3)) mq_74 ci_74 (List.mem_of_getElem? (i := 52) rfl)
theorem cd_74_108 : mt_cd 74 108 = some (.aload_n 0) := mt_cd_of (q := (108, .aload_n 0, 1)) mq_74 ci_74 (List.mem_of_getElem? (i := 53) rfl)
theorem cd_74_109 : mt_cd 74 109 = some (.getfield 49) := mt_cd_of (q := (109, .getfield 49, 3)) mq_74 ci_74 (List.mem_of_getElem? (i := 54) rfl)
theorem cd_74_112 : mt_cd 74 112 = some (.ifCond .ne 21) := mt_cd_of (q := (112, .ifCond .ne 21, 3)) mq_74 ci_74 (List.mem_of_getElem? (i := 55) rfl)
theorem cd_74_115 : mt_cd 74 115 = some (.aload_n 0) := mt_cd_of (q := (115, .aload_n 0, 1)) mq_74 ci_74 (List.mem_of_getElem? (i := 56) rfl)
theorem cd_74_116 : mt_cd 74 116 = some (.aload_n 2) := mt_cd_of (q := (116, .aload_n 2, 1)) mq_74 ci_74 (List.mem_of_getElem? (i := 57) rfl)
theorem cd_74_117 : mt_cd 74 117 = some (.iload 7) := mt_cd_of (q := (117, .iload 7, 2)) mq_74 ci_74 (List.mem_of_getElem? (i := 58) rfl)
theorem cd_74_119 : mt_cd 74 119 = some (.invokevirtual 72) := mt_cd_of (q := (119, .invokevirtual 72, 3)) mq_74 ci_74 (List.mem_of_getElem? (i := 59) rfl)
theorem cd_74_122 : mt_cd 74 122 = some (.aload_n 0) := mt_cd_of (q := (122, .aload_n 0, 1)) mq_74 ci_74 (List.mem_of_getElem? (i := 60) rfl)
theorem cd_74_123 : mt_cd 74 123 = some (.invokevirtual 63) := mt_cd_of (q := (123, .invokevirtual 63, 3)) mq_74 ci_74 (List.mem_of_getElem? (i := 61) rfl)
theorem cd_74_126 : mt_cd 74 126 = some (.pop) := mt_cd_of (q := (126, .pop, 1)) mq_74 ci_74 (List.mem_of_getElem? (i := 62) rfl)
theorem cd_74_127 : mt_cd 74 127 = some (.iinc 7 1) := mt_cd_of (q := (127, .iinc 7 1, 3)) mq_74 ci_74 (List.mem_of_getElem? (i := 63) rfl)
theorem cd_74_130 : mt_cd 74 130 = some (.goto (-38)) := mt_cd_of (q := (130, .goto (-38), 3)) mq_74 ci_74 (List.mem_of_getElem? (i := 64) rfl)
theorem cd_74_133 : mt_cd 74 133 = some (.aload_n 0) := mt_cd_of (q := (133, .aload_n 0, 1)) mq_74 ci_74 (List.mem_of_getElem? (i := 65) rfl)
theorem cd_74_134 : mt_cd 74 134 = some (.getfield 49) := mt_cd_of (q := (134, .getfield 49, 3)) mq_74 ci_74 (List.mem_of_getElem? (i := 66) rfl)
theorem cd_74_137 : mt_cd 74 137 = some (.ifCond .ne 30) := mt_cd_of (q := (137, .ifCond .ne 30, 3)) mq_74 ci_74 (List.mem_of_getElem? (i := 67) rfl)
theorem cd_74_140 : mt_cd 74 140 = some (.aload_n 0) := mt_cd_of (q := (140, .aload_n 0, 1)) mq_74 ci_74 (List.mem_of_getElem? (i := 68) rfl)
theorem cd_74_141 : mt_cd 74 141 = some (.getfield 22) := mt_cd_of (q := (141, .getfield 22, 3)) mq_74 ci_74 (List.mem_of_getElem? (i := 69) rfl)
theorem cd_74_144 : mt_cd 74 144 = some (.ifnull 23) := mt_cd_of (q := (144, .ifnull 23, 3)) mq_74 ci_74 (List.mem_of_getElem? (i := 70) rfl)
theorem cd_74_147 : mt_cd 74 147 = some (.aload_n 0) := mt_cd_of (q := (147, .aload_n 0, 1)) mq_74 ci_74 (List.mem_of_getElem? (i := 71) rfl)
theorem cd_74_148 : mt_cd 74 148 = some (.getfield 22) := mt_cd_of (q := (148, .getfield 22, 3)) mq_74 ci_74 (List.mem_of_getElem? (i := 72) rfl)
theorem cd_74_151 : mt_cd 74 151 = some (.aload_n 0) := mt_cd_of (q := (151, .aload_n 0, 1)) mq_74 ci_74 (List.mem_of_getElem? (i := 73) rfl)
theorem cd_74_152 : mt_cd 74 152 = some (.getfield 12) := mt_cd_of (q := (152, .getfield 12, 3)) mq_74 ci_74 (List.mem_of_getElem? (i := 74) rfl)
theorem cd_74_155 : mt_cd 74 155 = some (.invokevirtual 76) := mt_cd_of (q := (155, .invokevirtual 76, 3)) mq_74 ci_74 (List.mem_of_getElem? (i := 75) rfl)
theorem cd_74_158 : mt_cd 74 158 = some (.ifCond .ne 9) := mt_cd_of (q := (158, .ifCond .ne 9, 3)) mq_74 ci_74 (List.mem_of_getElem? (i := 76) rfl)
theorem cd_74_161 : mt_cd 74 161 = some (.aload_n 0) := mt_cd_of (q := (161, .aload_n 0, 1)) mq_74 ci_74 (List.mem_of_getElem? (i := 77) rfl)
theorem cd_74_162 : mt_cd 74 162 = some (.bipush 6) := mt_cd_of (q := (162, .bipush 6, 2)) mq_74 ci_74 (List.mem_of_getElem? (i := 78) rfl)
theorem cd_74_164 : mt_cd 74 164 = some (.putfield 49) := mt_cd_of (q := (164, .putfield 49, 3)) mq_74 ci_74 (List.mem_of_getElem? (i := 79) rfl)
theorem cd_74_167 : mt_cd 74 167 = some (.aload_n 0) := mt_cd_of (q := (167, .aload_n 0, 1)) mq_74 ci_74 (List.mem_of_getElem? (i := 80) rfl)
theorem cd_74_168 : mt_cd 74 168 = some (.getfield 49) := mt_cd_of (q := (168, .getfield 49, 3)) mq_74 ci_74 (List.mem_of_getElem? (i := 81) rfl)
theorem cd_74_171 : mt_cd 74 171 = some (.ifCond .eq 10) := mt_cd_of (q := (171, .ifCond .eq 10, 3)) mq_74 ci_74 (List.mem_of_getElem? (i := 82) rfl)
theorem cd_74_174 : mt_cd 74 174 = some (.aload_n 0) := mt_cd_of (q := (174, .aload_n 0, 1)) mq_74 ci_74 (List.mem_of_getElem? (i := 83) rfl)
theorem cd_74_175 : mt_cd 74 175 = some (.getfield 12) := mt_cd_of (q := (175, .getfield 12, 3)) mq_74 ci_74 (List.mem_of_getElem? (i := 84) rfl)
theorem cd_74_178 : mt_cd 74 178 = some (.invokevirtual 42) := mt_cd_of (q := (178, .invokevirtual 42, 3)) mq_74 ci_74 (List.mem_of_getElem? (i := 85) rfl)
theorem cd_74_181 : mt_cd 74 181 = some (.aload_n 0) := mt_cd_of (q := (181, .aload_n 0, 1)) mq_74 ci_74 (List.mem_of_getElem? (i := 86) rfl)
theorem cd_74_182 : mt_cd 74 182 = some (.getfield 49) := mt_cd_of (q := (182, .getfield 49, 3)) mq_74 ci_74 (List.mem_of_getElem? (i := 87) rfl)
theorem cd_74_185 : mt_cd 74 185 = some (.ireturn) := mt_cd_of (q := (185, .ireturn, 1)) mq_74 ci_74 (List.mem_of_getElem? (i := 88) rfl)
theorem b_74_0 {d : Nat} {Q : (Option Value ⊕ Nat) → mi_H → Prop} (n sl : Nat) (f : Nat → mi_C) {l1 : Nat} {l2 : Nat} {l3 : Nat} {l4 : Int64} {l5 : Int64} {o6 : Option Value} {fs7 : List Value} {x10 : Nat} {fs12 : List Value} (h8 : f l1 = .inr (7, fs7)) (h9 : l1 < n) (h11 : fs7[7]? = some (.ref x10)) (h13 : f x10 = .inr (8, fs12)) (h14 : x10 < n) (h15 : mi_W d 75 0 (mi_en 1 [.ref x10]) [] (n, sl, f) (mi_Kc d 74 4 [some (.ref l1), some (.ref l2), some (.ref l3), some (.long l4), none, some (.long l5), none, o6] [] Q)) : mi_W (d + 1) 74 0 [some (.ref l1), some (.ref l2), some (.ref l3), some (.long l4), none, some (.long l5), none, o6] [] (n, sl, f) Q := by
  refine w_aload_n cd_74_0 rfl ?_
  refine w_getfield cd_74_1 (show mt_f 7 12 = some (7, 7) by decide +kernel) h8 h9 h11 ?_
  exact w_invokevirtual cd_74_4 (show mt_m 7 42 = some (75, 0) by decide +kernel) (rest := []) rfl (as := [.ref x10]) rfl h13 (Or.inl h14) ⟨Nat.le_of_ble_eq_true rfl, Nat.le_of_ble_eq_true rfl, Nat.le_of_ble_eq_true rfl⟩ h15
theorem b_74_7 {d : Nat} {Q : (Option Value ⊕ Nat) → mi_H → Prop} (n sl : Nat) (f : Nat → mi_C) {l1 : Nat} {l2 : Nat} {l3 : Nat} {l4 : Int64} {l5 : Int64} {o6 : Option Value} (h7 : (0 : Int32) ≤ (lg_cmp l5 l4) → mi_W d 74 19 [some (.ref l1), some (.ref l2), some (.ref l3), some (.long l4), none, some (.long l5), none, o6] [.ref l1] (n, sl, f) Q) (h8 : ¬ ((0 : Int32) ≤ (lg_cmp l5 l4)) → mi_W d 74 15 [some (.ref l1), some (.ref l2), some (.ref l3), some (.long l4), none, some (.long l5), none, o6] [.ref l1] (n, sl, f) Q) : mi_W d 74 7 [some (.ref l1), some (.ref l2), some (.ref l3), some (.long l4), none, some (.long l5), none, o6] [] (n, sl, f) Q := by
  refine w_aload_n cd_74_7 rfl ?_
  refine w_lload cd_74_8 rfl ?_
  refine w_lload_n cd_74_10 rfl ?_
  refine w_lcmp cd_74_11 ?_
  exact w_ifge cd_74_12 (by decide) h7 h8
theorem b_74_15 {d : Nat} {Q : (Option Value ⊕ Nat) → mi_H → Prop} (n sl : Nat) (f : Nat → mi_C) {l1 : Nat} {l2 : Nat} {l3 : Nat} {l4 : Int64} {l5 : Int64} {o6 : Option Value} {s7 : Nat} (h8 : mi_W d 74 34 [some (.ref l1), some (.ref l2), some (.ref l3), some (.long l4), none, some (.long l5), none, o6] [.int 1, .ref s7] (n, sl, f) Q) : mi_W d 74 15 [some (.ref l1), some (.ref l2), some (.ref l3), some (.long l4), none, some (.long l5), none, o6] [.ref s7] (n, sl, f) Q := by
  refine w_iconst (v := 1) cd_74_15 (by decide) ?_
  exact w_goto cd_74_16 (by decide) h8
theorem b_74_19 {d : Nat} {Q : (Option Value ⊕ Nat) → mi_H → Prop} (n sl : Nat) (f : Nat → mi_C) {l1 : Nat} {l2 : Nat} {l3 : Nat} {l4 : Int64} {l5 : Int64} {o6 : Option Value} {s7 : Nat} {fs8 : List Value} {x11 : Int64} (h9 : f l2 = .inr (9, fs8)) (h10 : l2 < n) (h12 : fs8[1]? = some (.long x11)) (h13 : (0 : Int32) ≤ (lg_cmp l5 x11) → mi_W d 74 33 [some (.ref l1), some (.ref l2), some (.ref l3), some (.long l4), none, some (.long l5), none, o6] [.ref s7] (n, sl, f) Q) (h14 : ¬ ((0 : Int32) ≤ (lg_cmp l5 x11)) → mi_W d 74 29 [some (.ref l1), some (.ref l2), some (.ref l3), some (.long l4), none, some (.long l5), none, o6] [.ref s7] (n, sl, f) Q) : mi_W d 74 19 [some (.ref l1), some (.ref l2), some (.ref l3), some (.long l4), none, some (.long l5), none, o6] [.ref s7] (n, sl, f) Q := by
  refine w_lload cd_74_19 rfl ?_
  refine w_aload_n cd_74_21 rfl ?_
  refine w_getfield cd_74_22 (show mt_f 7 45 = some (9, 1) by decide +kernel) h9 h10 h12 ?_
  refine w_lcmp cd_74_25 ?_
  exact w_ifge cd_74_26 (by decide) h13 h14
theorem b_74_29 {d : Nat} {Q : (Option Value ⊕ Nat) → mi_H → Prop} (n sl : Nat) (f : Nat → mi_C) {l1 : Nat} {l2 : Nat} {l3 : Nat} {l4 : Int64} {l5 : Int64} {o6 : Option Value} {s7 : Nat} (h8 : mi_W d 74 34 [some (.ref l1), some (.ref l2), some (.ref l3), some (.long l4), none, some (.long l5), none, o6] [.int 2, .ref s7] (n, sl, f) Q) : mi_W d 74 29 [some (.ref l1), some (.ref l2), some (.ref l3), some (.long l4), none, some (.long l5), none, o6] [.ref s7] (n, sl, f) Q := by
  refine w_iconst (v := 2) cd_74_29 (by decide) ?_
  exact w_goto cd_74_30 (by decide) h8
theorem b_74_33 {d : Nat} {Q : (Option Value ⊕ Nat) → mi_H → Prop} (n sl : Nat) (f : Nat → mi_C) {l1 : Nat} {l2 : Nat} {l3 : Nat} {l4 : Int64} {l5 : Int64} {o6 : Option Value} {s7 : Nat} (h8 : mi_W d 74 34 [some (.ref l1), some (.ref l2), some (.ref l3), some (.long l4), none, some (.long l5), none, o6] [.int 0, .ref s7] (n, sl, f) Q) : mi_W d 74 33 [some (.ref l1), some (.ref l2), some (.ref l3), some (.long l4), none, some (.long l5), none, o6] [.ref s7] (n, sl, f) Q := by
  refine w_iconst (v := 0) cd_74_33 (by decide) ?_
  exact h8
theorem b_74_34 {d : Nat} {Q : (Option Value ⊕ Nat) → mi_H → Prop} (n sl : Nat) (f : Nat → mi_C) {l1 : Nat} {l2 : Nat} {l3 : Nat} {l4 : Int64} {l5 : Int64} {o6 : Option Value} {s7 : Int32} {s8 : Nat} {fs9 : List Value} {fs13 : List Value} {x16 : Int32} (h10 : f s8 = .inr (7, fs9)) (h11 : s8 < n) (h12 : 6 < fs9.length) (h14 : (va_up f s8 (.inr (7, fs9.set 6 (.int s7)))) l1 = .inr (7, fs13)) (h15 : l1 < n) (h17 : fs13[6]? = some (.int x16)) (h18 : ¬ x16 = (0 : Int32) → mi_W d 74 89 [some (.ref l1), some (.ref l2), some (.ref l3), some (.long l4), none, some (.long l5), none, o6] [] (n, sl, (va_up f s8 (.inr (7, fs9.set 6 (.int s7))))) Q) (h19 : ¬ (¬ x16 = (0 : Int32)) → mi_W d 74 44 [some (.ref l1), some (.ref l2), some (.ref l3), some (.long l4), none, some (.long l5), none, o6] [] (n, sl, (va_up f s8 (.inr (7, fs9.set 6 (.int s7))))) Q) : mi_W d 74 34 [some (.ref l1), some (.ref l2), some (.ref l3), some (.long l4), none, some (.long l5), none, o6] [.int s7, .ref s8] (n, sl, f) Q := by
  refine w_putfield (w := .int s7) cd_74_34 (show mt_f 7 49 = some (7, 6) by decide +kernel) h10 h11 ⟨h12, rfl, Or.inl (by decide)⟩ ?_
  refine w_aload_n cd_74_37 rfl ?_
  refine w_getfield cd_74_38 (show mt_f 7 49 = some (7, 6) by decide +kernel) h14 h15 h17 ?_
  exact w_ifne cd_74_41 (by decide) h18 h19
theorem b_74_44 {d : Nat} {Q : (Option Value ⊕ Nat) → mi_H → Prop} (n sl : Nat) (f : Nat → mi_C) {l1 : Nat} {l2 : Nat} {l3 : Nat} {l4 : Int64} {l5 : Int64} {o6 : Option Value} {fs7 : List Value} {x10 : Int64} (h8 : f l2 = .inr (9, fs7)) (h9 : l2 < n) (h11 : fs7[1]? = some (.long x10)) (h12 : mi_W d 76 0 (mi_en 4 [.long l4, .long x10]) [] (n, sl, f) (mi_Kc d 74 51 [some (.ref l1), some (.ref l2), some (.ref l3), some (.long l4), none, some (.long l5), none, o6] [.ref l2, .ref l1] Q)) : mi_W (d + 1) 74 44 [some (.ref l1), some (.ref l2), some (.ref l3), some (.long l4), none, some (.long l5), none, o6] [] (n, sl, f) Q := by
  refine w_aload_n cd_74_44 rfl ?_
  refine w_aload_n cd_74_45 rfl ?_
  refine w_lload_n cd_74_46 rfl ?_
  refine w_aload_n cd_74_47 rfl ?_
  refine w_getfield cd_74_48 (show mt_f 7 45 = some (9, 1) by decide +kernel) h8 h9 h11 ?_
  exact w_invokestatic cd_74_51 (show mt_m 7 53 = some (76, 4) by decide +kernel) (by decide) (rest := [.ref l2, .ref l1]) rfl (as := [.long l4, .long x10]) rfl ⟨Nat.le_of_ble_eq_true rfl, Nat.le_of_ble_eq_true rfl, Nat.le_of_ble_eq_true rfl⟩ h12
theorem b_74_54 {d : Nat} {Q : (Option Value ⊕ Nat) → mi_H → Prop} (n sl : Nat) (f : Nat → mi_C) {l1 : Nat} {l2 : Nat} {l3 : Nat} {l4 : Int64} {l5 : Int64} {o6 : Option Value} {s7 : Int64} {s8 : Nat} {s9 : Nat} {fs10 : List Value} (h11 : f s9 = .inr (7, fs10)) (h12 : s9 < n) (h13 : mi_W d 77 0 (mi_en 6 [.ref s9, .ref s8, .long s7, .long l5]) [] (n, sl, f) (mi_Kc d 74 56 [some (.ref l1), some (.ref l2), some (.ref l3), some (.long l4), none, some (.long l5), none, o6] [] Q)) : mi_W (d + 1) 74 54 [some (.ref l1), some (.ref l2), some (.ref l3), some (.long l4), none, some (.long l5), none, o6] [.long s7, .ref s8, .ref s9] (n, sl, f) Q := by
  refine w_lload cd_74_54 rfl ?_
  exact w_invokevirtual cd_74_56 (show mt_m 7 59 = some (77, 0) by decide +kernel) (rest := []) rfl (as := [.ref s9, .ref s8, .long s7, .long l5]) rfl h11 (Or.inl h12) ⟨Nat.le_of_ble_eq_true rfl, Nat.le_of_ble_eq_true rfl, Nat.le_of_ble_eq_true rfl⟩ h13
theorem b_74_59 {d : Nat} {Q : (Option Value ⊕ Nat) → mi_H → Prop} (n sl : Nat) (f : Nat → mi_C) {l1 : Nat} {l2 : Nat} {l3 : Nat} {l4 : Int64} {l5 : Int64} {o6 : Option Value} {fs7 : List Value} (h8 : f l1 = .inr (7, fs7)) (h9 : l1 < n) (h10 : mi_W d 80 0 (mi_en 5 [.ref l1]) [] (n, sl, f) (mi_Kc d 74 60 [some (.ref l1), some (.ref l2), some (.ref l3), some (.long l4), none, some (.long l5), none, o6] [] Q)) : mi_W (d + 1) 74 59 [some (.ref l1), some (.ref l2), some (.ref l3), some (.long l4), none, some (.long l5), none, o6] [] (n, sl, f) Q := by
  refine w_aload_n cd_74_59 rfl ?_
  exact w_invokevirtual cd_74_60 (show mt_m 7 63 = some (80, 0) by decide +kernel) (rest := []) rfl (as := [.ref l1]) rfl h8 (Or.inl h9) ⟨Nat.le_of_ble_eq_true rfl, Nat.le_of_ble_eq_true rfl, Nat.le_of_ble_eq_true rfl⟩ h10
theorem b_74_63 {d : Nat} {Q : (Option Value ⊕ Nat) → mi_H → Prop} (n sl : Nat) (f : Nat → mi_C) {l1 : Nat} {l2 : Nat} {l3 : Nat} {l4 : Int64} {l5 : Int64} {o6 : Option Value} {s7 : Int32} {fs8 : List Value} {x11 : Int32} (h9 : f l1 = .inr (7, fs8)) (h10 : l1 < n) (h12 : fs8[6]? = some (.int x11)) (h13 : ¬ x11 = (0 : Int32) → mi_W d 74 89 [some (.ref l1), some (.ref l2), some (.ref l3), some (.long l4), none, some (.long l5), none, some (.int s7)] [] (n, sl, f) Q) (h14 : ¬ (¬ x11 = (0 : Int32)) → mi_W d 74 72 [some (.ref l1), some (.ref l2), some (.ref l3), some (.long l4), none, some (.long l5), none, some (.int s7)] [] (n, sl, f) Q) : mi_W d 74 63 [some (.ref l1), some (.ref l2), some (.ref l3), some (.long l4), none, some (.long l5), none, o6] [.int s7] (n, sl, f) Q := by
  refine w_istore (ls' := [some (.ref l1), some (.ref l2), some (.ref l3), some (.long l4), none, some (.long l5), none, some (.int s7)]) cd_74_63 (Nat.le_of_ble_eq_true rfl) rfl ?_
  refine w_aload_n cd_74_65 rfl ?_
  refine w_getfield cd_74_66 (show mt_f 7 49 = some (7, 6) by decide +kernel) h9 h10 h12 ?_
  exact w_ifne cd_74_69 (by decide) h13 h14
theorem b_74_72 {d : Nat} {Q : (Option Value ⊕ Nat) → mi_H → Prop} (n sl : Nat) (f : Nat → mi_C) {l1 : Nat} {l2 : Nat} {l3 : Nat} {l4 : Int64} {l5 : Int64} {l6 : Int32} {fs7 : List Value} {x10 : Int32} (h8 : f l3 = .inr (6, fs7)) (h9 : l3 < n) (h11 : fs7[5]? = some (.int x10)) (h12 : ¬ x10 = (0 : Int32) → mi_W d 74 89 [some (.ref l1), some (.ref l2), some (.ref l3), some (.long l4), none, some (.long l5), none, some (.int l6)] [] (n, sl, f) Q) (h13 : ¬ (¬ x10 = (0 : Int32)) → mi_W d 74 79 [some (.ref l1), some (.ref l2), some (.ref l3), some (.long l4), none, some (.long l5), none, some (.int l6)] [] (n, sl, f) Q) : mi_W d 74 72 [some (.ref l1), some (.ref l2), some (.ref l3), some (.long l4), none, some (.long l5), none, some (.int l6)] [] (n, sl, f) Q := by
  refine w_aload_n cd_74_72 rfl ?_
  refine w_getfield cd_74_73 (show mt_f 7 67 = some (6, 5) by decide +kernel) h8 h9 h11 ?_
  exact w_ifne cd_74_76 (by decide) h12 h13
theorem b_74_79 {d : Nat} {Q : (Option Value ⊕ Nat) → mi_H → Prop} (n sl : Nat) (f : Nat → mi_C) {l1 : Nat} {l2 : Nat} {l3 : Nat} {l4 : Int64} {l5 : Int64} {l6 : Int32} (h7 : ¬ l6 = (0 : Int32) → mi_W d 74 89 [some (.ref l1), some (.ref l2), some (.ref l3), some (.long l4), none, some (.long l5), none, some (.int l6)] [] (n, sl, f) Q) (h8 : ¬ (¬ l6 = (0 : Int32)) → mi_W d 74 84 [some (.ref l1), some (.ref l2), some (.ref l3), some (.long l4), none, some (.long l5), none, some (.int l6)] [] (n, sl, f) Q) : mi_W d 74 79 [some (.ref l1), some (.ref l2), some (.ref l3), some (.long l4), none, some (.long l5), none, some (.int l6)] [] (n, sl, f) Q := by
  refine w_iload cd_74_79 rfl ?_
  exact w_ifne cd_74_81 (by decide) h7 h8
theorem b_74_84 {d : Nat} {Q : (Option Value ⊕ Nat) → mi_H → Prop} (n sl : Nat) (f : Nat → mi_C) {l1 : Nat} {l2 : Nat} {l3 : Nat} {l4 : Int64} {l5 : Int64} {l6 : Int32} {fs7 : List Value} (h8 : f l1 = .inr (7, fs7)) (h9 : l1 < n) (h10 : 6 < fs7.length) (h11 : mi_W d 74 89 [some (.ref l1), some (.ref l2), some (.ref l3), some (.long l4), none, some (.long l5), none, some (.int l6)] [] (n, sl, (va_up f l1 (.inr (7, fs7.set 6 (.int 5))))) Q) : mi_W d 74 84 [some (.ref l1), some (.ref l2), some (.ref l3), some (.long l4), none, some (.long l5), none, some (.int l6)] [] (n, sl, f) Q := by
  refine w_aload_n cd_74_84 rfl ?_
  refine w_iconst (v := 5) cd_74_85 (by decide) ?_
  refine w_putfield (w := .int 5) cd_74_86 (show mt_f 7 49 = some (7, 6) by decide +kernel) h8 h9 ⟨h10, rfl, Or.inl (by decide)⟩ ?_
  exact h11
theorem b_74_89 {d : Nat} {Q : (Option Value ⊕ Nat) → mi_H → Prop} (n sl : Nat) (f : Nat → mi_C) {l1 : Nat} {l2 : Nat} {l3 : Nat} {l4 : Int64} {l5 : Int64} {o6 : Option Value} (h7 : mi_W d 74 92 [some (.ref l1), some (.ref l2), some (.ref l3), some (.long l4), none, some (.long l5), none, some (.int 0)] [] (n, sl, f) Q) : mi_W d 74 89 [some (.ref l1), some (.ref l2), some (.ref l3), some (.long l4), none, some (.long l5), none, o6] [] (n, sl, f) Q := by
  refine w_iconst (v := 0) cd_74_89 (by decide) ?_
  refine w_istore (ls' := [some (.ref l1), some (.ref l2), some (.ref l3), some (.long l4), none, some (.long l5), none, some (.int 0)]) cd_74_90 (Nat.le_of_ble_eq_true rfl) rfl ?_
  exact h7
theorem b_74_92 {d : Nat} {Q : (Option Value ⊕ Nat) → mi_H → Prop} (n sl : Nat) (f : Nat → mi_C) {l1 : Nat} {l2 : Nat} {l3 : Nat} {l4 : Int64} {l5 : Int64} {l6 : Int32} {fs7 : List Value} {x10 : Int32} (h8 : f l3 = .inr (6, fs7)) (h9 : l3 < n) (h11 : fs7[5]? = some (.int x10)) (h12 : x10 ≤ l6 → mi_W d 74 133 [some (.ref l1), some (.ref l2), some (.ref l3), some (.long l4), none, some (.long l5), none, some (.int l6)] [] (n, sl, f) Q) (h13 : ¬ (x10 ≤ l6) → mi_W d 74 101 [some (.ref l1), some (.ref l2), some (.ref l3), some (.long l4), none, some (.long l5), none, some (.int l6)] [] (n, sl, f) Q) : mi_W d 74 92 [some (.ref l1), some (.ref l2), some (.ref l3), some (.long l4), none, some (.long l5), none, some (.int l6)] [] (n, sl, f) Q := by
  refine w_iload cd_74_92 rfl ?_
  refine w_aload_n cd_74_94 rfl ?_
  refine w_getfield cd_74_95 (show mt_f 7 67 = some (6, 5) by decide +kernel) h8 h9 h11 ?_
  exact w_if_icmpge cd_74_98 (by decide) h12 h13
theorem b_74_101 {d : Nat} {Q : (Option Value ⊕ Nat) → mi_H → Prop} (n sl : Nat) (f : Nat → mi_C) {l1 : Nat} {l2 : Nat} {l3 : Nat} {l4 : Int64} {l5 : Int64} {l6 : Int32} (h7 : 16 ≤ l6 → mi_W d 74 133 [some (.ref l1), some (.ref l2), some (.ref l3), some (.long l4), none, some (.long l5), none, some (.int l6)] [] (n, sl, f) Q) (h8 : ¬ (16 ≤ l6) → mi_W d 74 108 [some (.ref l1), some (.ref l2), some (.ref l3), some (.long l4), none, some (.long l5), none, some (.int l6)] [] (n, sl, f) Q) : mi_W d 74 101 [some (.ref l1), some (.ref l2), some (.ref l3), some (.long l4), none, some (.long l5), none, some (.int l6)] [] (n, sl, f) Q := by
  refine w_iload cd_74_101 rfl ?_
  refine w_bipush (v := 16) cd_74_103 (by decide) ?_
  exact w_if_icmpge cd_74_105 (by decide) h7 h8
theorem b_74_108 {d : Nat} {Q : (Option Value ⊕ Nat) → mi_H → Prop} (n sl : Nat) (f : Nat → mi_C) {l1 : Nat} {l2 : Nat} {l3 : Nat} {l4 : Int64} {l5 : Int64} {l6 : Int32} {fs7 : List Value} {x10 : Int32} (h8 : f l1 = .inr (7, fs7)) (h9 : l1 < n) (h11 : fs7[6]? = some (.int x10)) (h12 : ¬ x10 = (0 : Int32) → mi_W d 74 133 [some (.ref l1), some (.ref l2), some (.ref l3), some (.long l4), none, some (.long l5), none, some (.int l6)] [] (n, sl, f) Q) (h13 : ¬ (¬ x10 = (0 : Int32)) → mi_W d 74 115 [some (.ref l1), some (.ref l2), some (.ref l3), some (.long l4), none, some (.long l5), none, some (.int l6)] [] (n, sl, f) Q) : mi_W d 74 108 [some (.ref l1), some (.ref l2), some (.ref l3), some (.long l4), none, some (.long l5), none, some (.int l6)] [] (n, sl, f) Q := by
  refine w_aload_n cd_74_108 rfl ?_
  refine w_getfield cd_74_109 (show mt_f 7 49 = some (7, 6) by decide +kernel) h8 h9 h11 ?_
  exact w_ifne cd_74_112 (by decide) h12 h13
theorem b_74_115 {d : Nat} {Q : (Option Value ⊕ Nat) → mi_H → Prop} (n sl : Nat) (f : Nat → mi_C) {l1 : Nat} {l2 : Nat} {l3 : Nat} {l4 : Int64} {l5 : Int64} {l6 : Int32} {fs7 : List Value} (h8 : f l1 = .inr (7, fs7)) (h9 : l1 < n) (h10 : mi_W d 105 0 (mi_en 7 [.ref l1, .ref l3, .int l6]) [] (n, sl, f) (mi_Kc d 74 119 [some (.ref l1), some (.ref l2), some (.ref l3), some (.long l4), none, some (.long l5), none, some (.int l6)] [] Q)) : mi_W (d + 1) 74 115 [some (.ref l1), some (.ref l2), some (.ref l3), some (.long l4), none, some (.long l5), none, some (.int l6)] [] (n, sl, f) Q := by
  refine w_aload_n cd_74_115 rfl ?_
  refine w_aload_n cd_74_116 rfl ?_
  refine w_iload cd_74_117 rfl ?_
  exact w_invokevirtual cd_74_119 (show mt_m 7 72 = some (105, 0) by decide +kernel) (rest := []) rfl (as := [.ref l1, .ref l3, .int l6]) rfl h8 (Or.inl h9) ⟨Nat.le_of_ble_eq_true rfl, Nat.le_of_ble_eq_true rfl, Nat.le_of_ble_eq_true rfl⟩ h10
theorem b_74_122 {d : Nat} {Q : (Option Value ⊕ Nat) → mi_H → Prop} (n sl : Nat) (f : Nat → mi_C) {l1 : Nat} {l2 : Nat} {l3 : Nat} {l4 : Int64} {l5 : Int64} {l6 : Int32} {fs7 : List Value} (h8 : f l1 = .inr (7, fs7)) (h9 : l1 < n) (h10 : mi_W d 80 0 (mi_en 5 [.ref l1]) [] (n, sl, f) (mi_Kc d 74 123 [some (.ref l1), some (.ref l2), some (.ref l3), some (.long l4), none, some (.long l5), none, some (.int l6)] [] Q)) : mi_W (d + 1) 74 122 [some (.ref l1), some (.ref l2), some (.ref l3), some (.long l4), none, some (.long l5), none, some (.int l6)] [] (n, sl, f) Q := by
  refine w_aload_n cd_74_122 rfl ?_
  exact w_invokevirtual cd_74_123 (show mt_m 7 63 = some (80, 0) by decide +kernel) (rest := []) rfl (as := [.ref l1]) rfl h8 (Or.inl h9) ⟨Nat.le_of_ble_eq_true rfl, Nat.le_of_ble_eq_true rfl, Nat.le_of_ble_eq_true rfl⟩ h10
theorem b_74_126 {d : Nat} {Q : (Option Value ⊕ Nat) → mi_H → Prop} (n sl : Nat) (f : Nat → mi_C) {l1 : Nat} {l2 : Nat} {l3 : Nat} {l4 : Int64} {l5 : Int64} {l6 : Int32} {s7 : Int32} (h8 : mi_W d 74 92 [some (.ref l1), some (.ref l2), some (.ref l3), some (.long l4), none, some (.long l5), none, some (.int (l6 + 1))] [] (n, sl, f) Q) : mi_W d 74 126 [some (.ref l1), some (.ref l2), some (.ref l3), some (.long l4), none, some (.long l5), none, some (.int l6)] [.int s7] (n, sl, f) Q := by
  refine w_pop_i cd_74_126 ?_
  refine w_iinc (v := 1) (ls' := [some (.ref l1), some (.ref l2), some (.ref l3), some (.long l4), none, some (.long l5), none, some (.int (l6 + 1))]) cd_74_127 rfl (by decide) rfl ?_
  exact w_goto cd_74_130 (by decide) h8
theorem b_74_133 {d : Nat} {Q : (Option Value ⊕ Nat) → mi_H → Prop} (n sl : Nat) (f : Nat → mi_C) {l1 : Nat} {l2 : Nat} {l3 : Nat} {l4 : Int64} {l5 : Int64} {l6 : Int32} {fs7 : List Value} {x10 : Int32} (h8 : f l1 = .inr (7, fs7)) (h9 : l1 < n) (h11 : fs7[6]? = some (.int x10)) (h12 : ¬ x10 = (0 : Int32) → mi_W d 74 167 [some (.ref l1), some (.ref l2), some (.ref l3), some (.long l4), none, some (.long l5), none, some (.int l6)] [] (n, sl, f) Q) (h13 : ¬ (¬ x10 = (0 : Int32)) → mi_W d 74 140 [some (.ref l1), some (.ref l2), some (.ref l3), some (.long l4), none, some (.long l5), none, some (.int l6)] [] (n, sl, f) Q) : mi_W d 74 133 [some (.ref l1), some (.ref l2), some (.ref l3), some (.long l4), none, some (.long l5), none, some (.int l6)] [] (n, sl, f) Q := by
  refine w_aload_n cd_74_133 rfl ?_
  refine w_getfield cd_74_134 (show mt_f 7 49 = some (7, 6) by decide +kernel) h8 h9 h11 ?_
  exact w_ifne cd_74_137 (by decide) h12 h13
theorem b_74_140 {d : Nat} {Q : (Option Value ⊕ Nat) → mi_H → Prop} (n sl : Nat) (f : Nat → mi_C) {l1 : Nat} {l2 : Nat} {l3 : Nat} {l4 : Int64} {l5 : Int64} {l6 : Int32} {fs7 : List Value} {w10 : Value} (h8 : f l1 = .inr (7, fs7)) (h9 : l1 < n) (h11 : fs7[1]? = some (w10)) (h12 : w10 = .null → mi_W d 74 167 [some (.ref l1), some (.ref l2), some (.ref l3), some (.long l4), none, some (.long l5), none, some (.int l6)] [] (n, sl, f) Q) (h13 : ∀ q : Nat, w10 = .ref q → mi_W d 74 147 [some (.ref l1), some (.ref l2), some (.ref l3), some (.long l4), none, some (.long l5), none, some (.int l6)] [] (n, sl, f) Q) (h14 : w10.isRef = true) : mi_W d 74 140 [some (.ref l1), some (.ref l2), some (.ref l3), some (.long l4), none, some (.long l5), none, some (.int l6)] [] (n, sl, f) Q := by
  refine w_aload_n cd_74_140 rfl ?_
  refine w_getfield cd_74_141 (show mt_f 7 22 = some (7, 1) by decide +kernel) h8 h9 h11 ?_
  
  cases w10 with
  | null => exact w_ifnull_n cd_74_144 (by decide) (h12 rfl)
  | ref q => exact w_ifnull_r cd_74_144 (h13 q rfl)
  | _ => cases h14
theorem b_74_147 {d : Nat} {Q : (Option Value ⊕ Nat) → mi_H → Prop} (n sl : Nat) (f : Nat → mi_C) {l1 : Nat} {l2 : Nat} {l3 : Nat} {l4 : Int64} {l5 : Int64} {l6 : Int32} {fs7 : List Value} {x10 : Nat} {fs12 : List Value} {x15 : Nat} {fs17 : List Value} (h8 : f l1 = .inr (7, fs7)) (h9 : l1 < n) (h11 : fs7[1]? = some (.ref x10)) (h13 : f l1 = .inr (7, fs12)) (h14 : l1 < n) (h16 : fs12[7]? = some (.ref x15)) (h18 : f x10 = .inr (5, fs17)) (h19 : x10 < n) (h20 : mi_W d 112 0 (mi_en 4 [.ref x10, .ref x15]) [] (n, sl, f) (mi_Kc d 74 155 [some (.ref l1), some (.ref l2), some (.ref l3), some (.long l4), none, some (.long l5), none, some (.int l6)] [] Q)) : mi_W (d + 1) 74 147 [some (.ref l1), some (.ref l2), some (.ref l3), some (.long l4), none, some (.long l5), none, some (.int l6)] [] (n, sl, f) Q := by
  refine w_aload_n cd_74_147 rfl ?_
  refine w_getfield cd_74_148 (show mt_f 7 22 = some (7, 1) by decide +kernel) h8 h9 h11 ?_
  refine w_aload_n cd_74_151 rfl ?_
  refine w_getfield cd_74_152 (show mt_f 7 12 = some (7, 7) by decide +kernel) h13 h14 h16 ?_
  exact w_invokevirtual cd_74_155 (show mt_m 7 76 = some (112, 0) by decide +kernel) (rest := []) rfl (as := [.ref x10, .ref x15]) rfl h18 (Or.inl h19) ⟨Nat.le_of_ble_eq_true rfl, Nat.le_of_ble_eq_true rfl, Nat.le_of_ble_eq_true rfl⟩ h20
theorem b_74_158 {d : Nat} {Q : (Option Value ⊕ Nat) → mi_H → Prop} (n sl : Nat) (f : Nat → mi_C) {l1 : Nat} {l2 : Nat} {l3 : Nat} {l4 : Int64} {l5 : Int64} {l6 : Int32} {s7 : Int32} (h8 : ¬ s7 = (0 : Int32) → mi_W d 74 167 [some (.ref l1), some (.ref l2), some (.ref l3), some (.long l4), none, some (.long l5), none, some (.int l6)] [] (n, sl, f) Q) (h9 : ¬ (¬ s7 = (0 : Int32)) → mi_W d 74 161 [some (.ref l1), some (.ref l2), some (.ref l3), some (.long l4), none, some (.long l5), none, some (.int l6)] [] (n, sl, f) Q) : mi_W d 74 158 [some (.ref l1), some (.ref l2), some (.ref l3), some (.long l4), none, some (.long l5), none, some (.int l6)] [.int s7] (n, sl, f) Q := by
  exact w_ifne cd_74_158 (by decide) h8 h9
theorem b_74_161 {d : Nat} {Q : (Option Value ⊕ Nat) → mi_H → Prop} (n sl : Nat) (f : Nat → mi_C) {l1 : Nat} {l2 : Nat} {l3 : Nat} {l4 : Int64} {l5 : Int64} {l6 : Int32} {fs7 : List Value} (h8 : f l1 = .inr (7, fs7)) (h9 : l1 < n) (h10 : 6 < fs7.length) (h11 : mi_W d 74 167 [some (.ref l1), some (.ref l2), some (.ref l3), some (.long l4), none, some (.long l5), none, some (.int l6)] [] (n, sl, (va_up f l1 (.inr (7, fs7.set 6 (.int 6))))) Q) : mi_W d 74 161 [some (.ref l1), some (.ref l2), some (.ref l3), some (.long l4), none, some (.long l5), none, some (.int l6)] [] (n, sl, f) Q := by
  refine w_aload_n cd_74_161 rfl ?_
  refine w_bipush (v := 6) cd_74_162 (by decide) ?_
  refine w_putfield (w := .int 6) cd_74_164 (show mt_f 7 49 = some (7, 6) by decide +kernel) h8 h9 ⟨h10, rfl, Or.inl (by decide)⟩ ?_
  exact h11
theorem b_74_167 {d : Nat} {Q : (Option Value ⊕ Nat) → mi_H → Prop} (n sl : Nat) (f : Nat → mi_C) {l1 : Nat} {l2 : Nat} {l3 : Nat} {l4 : Int64} {l5 : Int64} {l6 : Int32} {fs7 : List Value} {x10 : Int32} (h8 : f l1 = .inr (7, fs7)) (h9 : l1 < n) (h11 : fs7[6]? = some (.int x10)) (h12 : x10 = (0 : Int32) → mi_W d 74 181 [some (.ref l1), some (.ref l2), some (.ref l3), some (.long l4), none, some (.long l5), none, some (.int l6)] [] (n, sl, f) Q) (h13 : ¬ (x10 = (0 : Int32)) → mi_W d 74 174 [some (.ref l1), some (.ref l2), some (.ref l3), some (.long l4), none, some (.long l5), none, some (.int l6)] [] (n, sl, f) Q) : mi_W d 74 167 [some (.ref l1), some (.ref l2), some (.ref l3), some (.long l4), none, some (.long l5), none, some (.int l6)] [] (n, sl, f) Q := by
  refine w_aload_n cd_74_167 rfl ?_
  refine w_getfield cd_74_168 (show mt_f 7 49 = some (7, 6) by decide +kernel) h8 h9 h11 ?_
  exact w_ifeq cd_74_171 (by decide) h12 h13
theorem b_74_174 {d : Nat} {Q : (Option Value ⊕ Nat) → mi_H → Prop} (n sl : Nat) (f : Nat → mi_C) {l1 : Nat} {l2 : Nat} {l3 : Nat} {l4 : Int64} {l5 : Int64} {l6 : Int32} {fs7 : List Value} {x10 : Nat} {fs12 : List Value} (h8 : f l1 = .inr (7, fs7)) (h9 : l1 < n) (h11 : fs7[7]? = some (.ref x10)) (h13 : f x10 = .inr (8, fs12)) (h14 : x10 < n) (h15 : mi_W d 75 0 (mi_en 1 [.ref x10]) [] (n, sl, f) (mi_Kc d 74 178 [some (.ref l1), some (.ref l2), some (.ref l3), some (.long l4), none, some (.long l5), none, some (.int l6)] [] Q)) : mi_W (d + 1) 74 174 [some (.ref l1), some (.ref l2), some (.ref l3), some (.long l4), none, some (.long l5), none, some (.int l6)] [] (n, sl, f) Q := by
  refine w_aload_n cd_74_174 rfl ?_
  refine w_getfield cd_74_175 (show mt_f 7 12 = some (7, 7) by decide +kernel) h8 h9 h11 ?_
  exact w_invokevirtual cd_74_178 (show mt_m 7 42 = some (75, 0) by decide +kernel) (rest := []) rfl (as := [.ref x10]) rfl h13 (Or.inl h14) ⟨Nat.le_of_ble_eq_true rfl, Nat.le_of_ble_eq_true rfl, Nat.le_of_ble_eq_true rfl⟩ h15
theorem b_74_181 {d : Nat} {Q : (Option Value ⊕ Nat) → mi_H → Prop} (n sl : Nat) (f : Nat → mi_C) {l1 : Nat} {l2 : Nat} {l3 : Nat} {l4 : Int64} {l5 : Int64} {l6 : Int32} {fs7 : List Value} {x10 : Int32} (h8 : f l1 = .inr (7, fs7)) (h9 : l1 < n) (h11 : fs7[6]? = some (.int x10)) (h12 : Q (.inl (some (.int x10))) (n, sl, f)) : mi_W d 74 181 [some (.ref l1), some (.ref l2), some (.ref l3), some (.long l4), none, some (.long l5), none, some (.int l6)] [] (n, sl, f) Q := by
  refine w_aload_n cd_74_181 rfl ?_
  refine w_getfield cd_74_182 (show mt_f 7 49 = some (7, 6) by decide +kernel) h8 h9 h11 ?_
  exact w_ireturn_i cd_74_185 (by decide +kernel) h12
/-! MarloweHost$Events.clear()V -/
set_option maxRecDepth 100000 in
theorem mq_75 : mt_q 75 = my_75 := rfl
set_option maxRecDepth 100000 in
theorem ci_75 : mt_inc 0 my_75.cd = true := by decide +kernel
theorem cd_75_0 : mt_cd 75 0 = some (.aload_n 0) := mt_cd_of (q := (0, .aload_n 0, 1)) mq_75 ci_75 (List.mem_of_getElem? (i := 0) rfl)
theorem cd_75_1 : mt_cd 75 1 = some (.iconst 0) := mt_cd_of (q := (1, .iconst 0, 1)) mq_75 ci_75 (List.mem_of_getElem? (i := 1) rfl)
theorem cd_75_2 : mt_cd 75 2 = some (.putfield 31) := mt_cd_of (q := (2, .putfield 31, 3)) mq_75 ci_75 (List.mem_of_getElem? (i := 2) rfl)
theorem cd_75_5 : mt_cd 75 5 = some (.aload_n 0) := mt_cd_of (q := (5, .aload_n 0, 1)) mq_75 ci_75 (List.mem_of_getElem? (i := 3) rfl)
theorem cd_75_6 : mt_cd 75 6 = some (.iconst 0) := mt_cd_of (q := (6, .iconst 0, 1)) mq_75 ci_75 (List.mem_of_getElem? (i := 4) rfl)
theorem cd_75_7 : mt_cd 75 7 = some (.putfield 35) := mt_cd_of (q := (7, .putfield 35, 3)) mq_75 ci_75 (List.mem_of_getElem? (i := 5) rfl)
theorem cd_75_10 : mt_cd 75 10 = some (.return_) := mt_cd_of (q := (10, .return_, 1)) mq_75 ci_75 (List.mem_of_getElem? (i := 6) rfl)
theorem b_75_0 {d : Nat} {Q : (Option Value ⊕ Nat) → mi_H → Prop} (n sl : Nat) (f : Nat → mi_C) {l1 : Nat} {fs2 : List Value} {fs6 : List Value} (h3 : f l1 = .inr (8, fs2)) (h4 : l1 < n) (h5 : 6 < fs2.length) (h7 : (va_up f l1 (.inr (8, fs2.set 6 (.int 0)))) l1 = .inr (8, fs6)) (h8 : l1 < n) (h9 : 7 < fs6.length) (h10 : Q (.inl none) (n, sl, (va_up (va_up f l1 (.inr (8, fs2.set 6 (.int 0)))) l1 (.inr (8, fs6.set 7 (.int 0)))))) : mi_W d 75 0 [some (.ref l1)] [] (n, sl, f) Q := by
  refine w_aload_n cd_75_0 rfl ?_
  refine w_iconst (v := 0) cd_75_1 (by decide) ?_
  refine w_putfield (w := .int 0) cd_75_2 (show mt_f 8 31 = some (8, 6) by decide +kernel) h3 h4 ⟨h5, rfl, Or.inl (by decide)⟩ ?_
  refine w_aload_n cd_75_5 rfl ?_
  refine w_iconst (v := 0) cd_75_6 (by decide) ?_
  refine w_putfield (w := .int 0) cd_75_7 (show mt_f 8 35 = some (8, 7) by decide +kernel) h7 h8 ⟨h9, rfl, Or.inl (by decide)⟩ ?_
  exact w_return cd_75_10 (by decide +kernel) h10
/-! MarloweHost$Machine.enter(LMarloweHost$Situation;JJ)V -/
set_option maxRecDepth 100000 in
theorem mq_77 : mt_q 77 = my_77 := rfl
set_option maxRecDepth 100000 in
theorem ci_77 : mt_inc 0 my_77.cd = true := by decide +kernel
theorem cd_77_0 : mt_cd 77 0 = some (.aload_n 0) := mt_cd_of (q := (0, .aload_n 0, 1)) mq_77 ci_77 (List.mem_of_getElem? (i := 0) rfl)
theorem cd_77_1 : mt_cd 77 1 = some (.aload_n 1) := mt_cd_of (q := (1, .aload_n 1, 1)) mq_77 ci_77 (List.mem_of_getElem? (i := 1) rfl)
theorem cd_77_2 : mt_cd 77 2 = some (.putfield 29) := mt_cd_of (q := (2, .putfield 29, 3)) mq_77 ci_77 (List.mem_of_getElem? (i := 2) rfl)
theorem cd_77_5 : mt_cd 77 5 = some (.aload_n 0) := mt_cd_of (q := (5, .aload_n 0, 1)) mq_77 ci_77 (List.mem_of_getElem? (i := 3) rfl)
theorem cd_77_6 : mt_cd 77 6 = some (.lload_n 2) := mt_cd_of (q := (6, .lload_n 2, 1)) mq_77 ci_77 (List.mem_of_getElem? (i := 4) rfl)
theorem cd_77_7 : mt_cd 77 7 = some (.putfield 82) := mt_cd_of (q := (7, .putfield 82, 3)) mq_77 ci_77 (List.mem_of_getElem? (i := 5) rfl)
theorem cd_77_10 : mt_cd 77 10 = some (.aload_n 0) := mt_cd_of (q := (10, .aload_n 0, 1)) mq_77 ci_77 (List.mem_of_getElem? (i := 6) rfl)
theorem cd_77_11 : mt_cd 77 11 = some (.lload 4) := mt_cd_of (q := (11, .lload 4, 2)) mq_77 ci_77 (List.mem_of_getElem? (i := 7) rfl)
theorem cd_77_13 : mt_cd 77 13 = some (.putfield 85) := mt_cd_of (q := (13, .putfield 85, 3)) mq_77 ci_77 (List.mem_of_getElem? (i := 8) rfl)
theorem cd_77_16 : mt_cd 77 16 = some (.aload_n 0) := mt_cd_of (q := (16, .aload_n 0, 1)) mq_77 ci_77 (List.mem_of_getElem? (i := 9) rfl)
theorem cd_77_17 : mt_cd 77 17 = some (.getfield 29) := mt_cd_of (q := (17, .getfield 29, 3)) mq_77 ci_77 (List.mem_of_getElem? (i := 10) rfl)
theorem cd_77_20 : mt_cd 77 20 = some (.aload_n 0) := mt_cd_of (q := (20, .aload_n 0, 1)) mq_77 ci_77 (List.mem_of_getElem? (i := 11) rfl)
theorem cd_77_21 : mt_cd 77 21 = some (.getfield 82) := mt_cd_of (q := (21, .getfield 82, 3)) mq_77 ci_77 (List.mem_of_getElem? (i := 12) rfl)
theorem cd_77_24 : mt_cd 77 24 = some (.putfield 45) := mt_cd_of (q := (24, .putfield 45, 3)) mq_77 ci_77 (List.mem_of_getElem? (i := 13) rfl)
theorem cd_77_27 : mt_cd 77 27 = some (.aload_n 0) := mt_cd_of (q := (27, .aload_n 0, 1)) mq_77 ci_77 (List.mem_of_getElem? (i := 14) rfl)
theorem cd_77_28 : mt_cd 77 28 = some (.getfield 38) := mt_cd_of (q := (28, .getfield 38, 3)) mq_77 ci_77 (List.mem_of_getElem? (i := 15) rfl)
theorem cd_77_31 : mt_cd 77 31 = some (.aload_n 0) := mt_cd_of (q := (31, .aload_n 0, 1)) mq_77 ci_77 (List.mem_of_getElem? (i := 16) rfl)
theorem cd_77_32 : mt_cd 77 32 = some (.getfield 29) := mt_cd_of (q := (32, .getfield 29, 3)) mq_77 ci_77 (List.mem_of_getElem? (i := 17) rfl)
theorem cd_77_35 : mt_cd 77 35 = some (.aload_n 0) := mt_cd_of (q := (35, .aload_n 0, 1)) mq_77 ci_77 (List.mem_of_getElem? (i := 18) rfl)
theorem cd_77_36 : mt_cd 77 36 = some (.getfield 82) := mt_cd_of (q := (36, .getfield 82, 3)) mq_77 ci_77 (List.mem_of_getElem? (i := 19) rfl)
theorem cd_77_39 : mt_cd 77 39 = some (.aload_n 0) := mt_cd_of (q := (39, .aload_n 0, 1)) mq_77 ci_77 (List.mem_of_getElem? (i := 20) rfl)
theorem cd_77_40 : mt_cd 77 40 = some (.getfield 85) := mt_cd_of (q := (40, .getfield 85, 3)) mq_77 ci_77 (List.mem_of_getElem? (i := 21) rfl)
theorem cd_77_43 : mt_cd 77 43 = some (.invokevirtual 88) := mt_cd_of (q := (43, .invokevirtual 88, 3)) mq_77 ci_77 (List.mem_of_getElem? (i := 22) rfl)
theorem cd_77_46 : mt_cd 77 46 = some (.aload_n 0) := mt_cd_of (q := (46, .aload_n 0, 1)) mq_77 ci_77 (List.mem_of_getElem? (i := 23) rfl)
theorem cd_77_47 : mt_cd 77 47 = some (.getfield 22) := mt_cd_of (q := (47, .getfield 22, 3)) mq_77 ci_77 (List.mem_of_getElem? (i := 24) rfl)
theorem cd_77_50 : mt_cd 77 50 = some (.ifnull 10) := mt_cd_of (q := (50, .ifnull 10, 3)) mq_77 ci_77 (List.mem_of_getElem? (i := 25) rfl)
theorem cd_77_53 : mt_cd 77 53 = some (.aload_n 0) := mt_cd_of (q := (53, .aload_n 0, 1)) mq_77 ci_77 (List.mem_of_getElem? (i := 26) rfl)
theorem cd_77_54 : mt_cd 77 54 = some (.getfield 22) := mt_cd_of (q := (54, .getfield 22, 3)) mq_77 ci_77 (List.mem_of_getElem? (i := 27) rfl)
theorem cd_77_57 : mt_cd 77 57 = some (.invokevirtual 91) := mt_cd_of (q := (57, .invokevirtual 91, 3)) mq_77 ci_77 (List.mem_of_getElem? (i := 28) rfl)
theorem cd_77_60 : mt_cd 77 60 = some (.return_) := mt_cd_of (q := (60, .return_, 1)) mq_77 ci_77 (List.mem_of_getElem? (i := 29) rfl)
theorem b_77_0 {d : Nat} {Q : (Option Value ⊕ Nat) → mi_H → Prop} (n sl : Nat) (f : Nat → mi_C) {l1 : Nat} {l2 : Nat} {l3 : Int64} {l4 : Int64} {fs5 : List Value} {fs9 : List Value} {fs13 : List Value} {fs17 : List Value} {x20 : Nat} {fs22 : List Value} {x25 : Int64} {fs27 : List Value} {fs31 : List Value} {x34 : Nat} {fs36 : List Value} {x39 : Nat} {fs41 : List Value} {x44 : Int64} {fs46 : List Value} {x49 : Int64} {fs51 : List Value} (h6 : f l1 = .inr (7, fs5)) (h7 : l1 < n) (h8 : 3 < fs5.length) (h10 : (va_up f l1 (.inr (7, fs5.set 3 (.ref l2)))) l1 = .inr (7, fs9)) (h11 : l1 < n) (h12 : 4 < fs9.length) (h14 : (va_up (va_up f l1 (.inr (7, fs5.set 3 (.ref l2)))) l1 (.inr (7, fs9.set 4 (.long l3)))) l1 = .inr (7, fs13)) (h15 : l1 < n) (h16 : 5 < fs13.length) (h18 : (va_up (va_up (va_up f l1 (.inr (7, fs5.set 3 (.ref l2)))) l1 (.inr (7, fs9.set 4 (.long l3)))) l1 (.inr (7, fs13.set 5 (.long l4)))) l1 = .inr (7, fs17)) (h19 : l1 < n) (h21 : fs17[3]? = some (.ref x20)) (h23 : (va_up (va_up (va_up f l1 (.inr (7, fs5.set 3 (.ref l2)))) l1 (.inr (7, fs9.set 4 (.long l3)))) l1 (.inr (7, fs13.set 5 (.long l4)))) l1 = .inr (7, fs22)) (h24 : l1 < n) (h26 : fs22[4]? = some (.long x25)) (h28 : (va_up (va_up (va_up f l1 (.inr (7, fs5.set 3 (.ref l2)))) l1 (.inr (7, fs9.set 4 (.long l3)))) l1 (.inr (7, fs13.set 5 (.long l4)))) x20 = .inr (9, fs27)) (h29 : x20 < n) (h30 : 1 < fs27.length) (h32 : (va_up (va_up (va_up (va_up f l1 (.inr (7, fs5.set 3 (.ref l2)))) l1 (.inr (7, fs9.set 4 (.long l3)))) l1 (.inr (7, fs13.set 5 (.long l4)))) x20 (.inr (9, fs27.set 1 (.long x25)))) l1 = .inr (7, fs31)) (h33 : l1 < n) (h35 : fs31[2]? = some (.ref x34)) (h37 : (va_up (va_up (va_up (va_up f l1 (.inr (7, fs5.set 3 (.ref l2)))) l1 (.inr (7, fs9.set 4 (.long l3)))) l1 (.inr (7, fs13.set 5 (.long l4)))) x20 (.inr (9, fs27.set 1 (.long x25)))) l1 = .inr (7, fs36)) (h38 : l1 < n) (h40 : fs36[3]? = some (.ref x39)) (h42 : (va_up (va_up (va_up (va_up f l1 (.inr (7, fs5.set 3 (.ref l2)))) l1 (.inr (7, fs9.set 4 (.long l3)))) l1 (.inr (7, fs13.set 5 (.long l4)))) x20 (.inr (9, fs27.set 1 (.long x25)))) l1 = .inr (7, fs41)) (h43 : l1 < n) (h45 : fs41[4]? = some (.long x44)) (h47 : (va_up (va_up (va_up (va_up f l1 (.inr (7, fs5.set 3 (.ref l2)))) l1 (.inr (7, fs9.set 4 (.long l3)))) l1 (.inr (7, fs13.set 5 (.long l4)))) x20 (.inr (9, fs27.set 1 (.long x25)))) l1 = .inr (7, fs46)) (h48 : l1 < n) (h50 : fs46[5]? = some (.long x49)) (h52 : (va_up (va_up (va_up (va_up f l1 (.inr (7, fs5.set 3 (.ref l2)))) l1 (.inr (7, fs9.set 4 (.long l3)))) l1 (.inr (7, fs13.set 5 (.long l4)))) x20 (.inr (9, fs27.set 1 (.long x25)))) x34 = .inr (10, fs51)) (h53 : x34 < n) (h54 : mi_W d 78 0 (mi_en 6 [.ref x34, .ref x39, .long x44, .long x49]) [] (n, sl, (va_up (va_up (va_up (va_up f l1 (.inr (7, fs5.set 3 (.ref l2)))) l1 (.inr (7, fs9.set 4 (.long l3)))) l1 (.inr (7, fs13.set 5 (.long l4)))) x20 (.inr (9, fs27.set 1 (.long x25))))) (mi_Kc d 77 43 [some (.ref l1), some (.ref l2), some (.long l3), none, some (.long l4), none] [] Q)) : mi_W (d + 1) 77 0 [some (.ref l1), some (.ref l2), some (.long l3), none, some (.long l4), none] [] (n, sl, f) Q := by
  refine w_aload_n cd_77_0 rfl ?_
  refine w_aload_n cd_77_1 rfl ?_
  refine w_putfield (w := .ref l2) cd_77_2 (show mt_f 7 29 = some (7, 3) by decide +kernel) h6 h7 ⟨h8, rfl, Or.inl (by decide)⟩ ?_
  refine w_aload_n cd_77_5 rfl ?_
  refine w_lload_n cd_77_6 rfl ?_
  refine w_putfield (w := .long l3) cd_77_7 (show mt_f 7 82 = some (7, 4) by decide +kernel) h10 h11 ⟨h12, rfl, Or.inl (by decide)⟩ ?_
  refine w_aload_n cd_77_10 rfl ?_
  refine w_lload cd_77_11 rfl ?_
  refine w_putfield (w := .long l4) cd_77_13 (show mt_f 7 85 = some (7, 5) by decide +kernel) h14 h15 ⟨h16, rfl, Or.inl (by decide)⟩ ?_
  refine w_aload_n cd_77_16 rfl ?_
  refine w_getfield cd_77_17 (show mt_f 7 29 = some (7, 3) by decide +kernel) h18 h19 h21 ?_
  refine w_aload_n cd_77_20 rfl ?_
  refine w_getfield cd_77_21 (show mt_f 7 82 = some (7, 4) by decide +kernel) h23 h24 h26 ?_
  refine w_putfield (w := .long x25) cd_77_24 (show mt_f 7 45 = some (9, 1) by decide +kernel) h28 h29 ⟨h30, rfl, Or.inl (by decide)⟩ ?_
  refine w_aload_n cd_77_27 rfl ?_
  refine w_getfield cd_77_28 (show mt_f 7 38 = some (7, 2) by decide +kernel) h32 h33 h35 ?_
  refine w_aload_n cd_77_31 rfl ?_
  refine w_getfield cd_77_32 (show mt_f 7 29 = some (7, 3) by decide +kernel) h37 h38 h40 ?_
  refine w_aload_n cd_77_35 rfl ?_
  refine w_getfield cd_77_36 (show mt_f 7 82 = some (7, 4) by decide +kernel) h42 h43 h45 ?_
  refine w_aload_n cd_77_39 rfl ?_
  refine w_getfield cd_77_40 (show mt_f 7 85 = some (7, 5) by decide +kernel) h47 h48 h50 ?_
  exact w_invokevirtual cd_77_43 (show mt_m 7 88 = some (78, 0) by decide +kernel) (rest := []) rfl (as := [.ref x34, .ref x39, .long x44, .long x49]) rfl h52 (Or.inl h53) ⟨Nat.le_of_ble_eq_true rfl, Nat.le_of_ble_eq_true rfl, Nat.le_of_ble_eq_true rfl⟩ h54
theorem b_77_46 {d : Nat} {Q : (Option Value ⊕ Nat) → mi_H → Prop} (n sl : Nat) (f : Nat → mi_C) {l1 : Nat} {l2 : Nat} {l3 : Int64} {l4 : Int64} {fs5 : List Value} {w8 : Value} (h6 : f l1 = .inr (7, fs5)) (h7 : l1 < n) (h9 : fs5[1]? = some (w8)) (h10 : w8 = .null → mi_W d 77 60 [some (.ref l1), some (.ref l2), some (.long l3), none, some (.long l4), none] [] (n, sl, f) Q) (h11 : ∀ q : Nat, w8 = .ref q → mi_W d 77 53 [some (.ref l1), some (.ref l2), some (.long l3), none, some (.long l4), none] [] (n, sl, f) Q) (h12 : w8.isRef = true) : mi_W d 77 46 [some (.ref l1), some (.ref l2), some (.long l3), none, some (.long l4), none] [] (n, sl, f) Q := by
  refine w_aload_n cd_77_46 rfl ?_
  refine w_getfield cd_77_47 (show mt_f 7 22 = some (7, 1) by decide +kernel) h6 h7 h9 ?_
  
  cases w8 with
  | null => exact w_ifnull_n cd_77_50 (by decide) (h10 rfl)
  | ref q => exact w_ifnull_r cd_77_50 (h11 q rfl)
  | _ => cases h12
theorem b_77_53 {d : Nat} {Q : (Option Value ⊕ Nat) → mi_H → Prop} (n sl : Nat) (f : Nat → mi_C) {l1 : Nat} {l2 : Nat} {l3 : Int64} {l4 : Int64} {fs5 : List Value} {x8 : Nat} {fs10 : List Value} (h6 : f l1 = .inr (7, fs5)) (h7 : l1 < n) (h9 : fs5[1]? = some (.ref x8)) (h11 : f x8 = .inr (5, fs10)) (h12 : x8 < n) (h13 : mi_W d 79 0 (mi_en 1 [.ref x8]) [] (n, sl, f) (mi_Kc d 77 57 [some (.ref l1), some (.ref l2), some (.long l3), none, some (.long l4), none] [] Q)) : mi_W (d + 1) 77 53 [some (.ref l1), some (.ref l2), some (.long l3), none, some (.long l4), none] [] (n, sl, f) Q := by
  refine w_aload_n cd_77_53 rfl ?_
  refine w_getfield cd_77_54 (show mt_f 7 22 = some (7, 1) by decide +kernel) h6 h7 h9 ?_
  exact w_invokevirtual cd_77_57 (show mt_m 7 91 = some (79, 0) by decide +kernel) (rest := []) rfl (as := [.ref x8]) rfl h11 (Or.inl h12) ⟨Nat.le_of_ble_eq_true rfl, Nat.le_of_ble_eq_true rfl, Nat.le_of_ble_eq_true rfl⟩ h13
theorem b_77_60 {d : Nat} {Q : (Option Value ⊕ Nat) → mi_H → Prop} (n sl : Nat) (f : Nat → mi_C) {l1 : Nat} {l2 : Nat} {l3 : Int64} {l4 : Int64} (h5 : Q (.inl none) (n, sl, f)) : mi_W d 77 60 [some (.ref l1), some (.ref l2), some (.long l3), none, some (.long l4), none] [] (n, sl, f) Q := by
  exact w_return cd_77_60 (by decide +kernel) h5
end
