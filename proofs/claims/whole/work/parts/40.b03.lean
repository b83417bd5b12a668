section
/-! MarloweHostLaw.paid(LMarloweHost;I[J)I -/
set_option maxRecDepth 100000 in
theorem mq_113 : mt_q 113 = my_113 := rfl
set_option maxRecDepth 100000 in
theorem ci_113 : mt_inc 0 my_113.cd = true := by decide +kernel
theorem cd_113_0 : mt_cd 113 0 = some (.aload_n 2) := mt_cd_of (q := (0, .aload_n 2, 1)) mq_113 ci_113 (List.mem_of_getElem? (i := 0) rfl)
theorem cd_113_1 : mt_cd 113 1 = some (.iconst 0) := mt_cd_of (q := (1, .iconst 0, 1)) mq_113 ci_113 (List.mem_of_getElem? (i := 1) rfl)
theorem cd_113_2 : mt_cd 113 2 = some (.aload_n 0) := mt_cd_of (q := (2, .aload_n 0, 1)) mq_113 ci_113 (List.mem_of_getElem? (i := 2) rfl)
theorem cd_113_3 : mt_cd 113 3 = some (.iload_n 1) := mt_cd_of (q := (3, .iload_n 1, 1)) mq_113 ci_113 (List.mem_of_getElem? (i := 3) rfl)
theorem cd_113_4 : mt_cd 113 4 = some (.invokevirtual 47) := mt_cd_of (q := (4, .invokevirtual 47, 3)) mq_113 ci_113 (List.mem_of_getElem? (i := 4) rfl)
theorem cd_113_7 : mt_cd 113 7 = some (.lastore) := mt_cd_of (q := (7, .lastore, 1)) mq_113 ci_113 (List.mem_of_getElem? (i := 5) rfl)
theorem cd_113_8 : mt_cd 113 8 = some (.goto 6) := mt_cd_of (q := (8, .goto 6, 3)) mq_113 ci_113 (List.mem_of_getElem? (i := 6) rfl)
theorem cd_113_11 : mt_cd 113 11 = some (.astore_n 3) := mt_cd_of (q := (11, .astore_n 3, 1)) mq_113 ci_113 (List.mem_of_getElem? (i := 7) rfl)
theorem cd_113_12 : mt_cd 113 12 = some (.iconst 1) := mt_cd_of (q := (12, .iconst 1, 1)) mq_113 ci_113 (List.mem_of_getElem? (i := 8) rfl)
theorem cd_113_13 : mt_cd 113 13 = some (.ireturn) := mt_cd_of (q := (13, .ireturn, 1)) mq_113 ci_113 (List.mem_of_getElem? (i := 9) rfl)
theorem cd_113_14 : mt_cd 113 14 = some (.iconst 0) := mt_cd_of (q := (14, .iconst 0, 1)) mq_113 ci_113 (List.mem_of_getElem? (i := 10) rfl)
theorem cd_113_15 : mt_cd 113 15 = some (.ireturn) := mt_cd_of (q := (15, .ireturn, 1)) mq_113 ci_113 (List.mem_of_getElem? (i := 11) rfl)
theorem b_113_0 {d : Nat} {Q : (Option Value ⊕ Nat) → mi_H → Prop} (n sl : Nat) (f : Nat → mi_C) {l1 : Nat} {l2 : Int32} {l3 : Nat} {o4 : Option Value} {fs5 : List Value} (h6 : f l1 = .inr (0, fs5)) (h7 : l1 < n) (h8 : mi_W d 114 0 (mi_en 2 [.ref l1, .int l2]) [] (n, sl, f) (mi_Kc d 113 4 [some (.ref l1), some (.int l2), some (.ref l3), o4] [.int 0, .ref l3] Q)) : mi_W (d + 1) 113 0 [some (.ref l1), some (.int l2), some (.ref l3), o4] [] (n, sl, f) Q := by
  refine w_aload_n cd_113_0 rfl ?_
  refine w_iconst (v := 0) cd_113_1 (by decide) ?_
  refine w_aload_n cd_113_2 rfl ?_
  refine w_iload_n cd_113_3 rfl ?_
  exact w_invokevirtual cd_113_4 (show mt_m 18 47 = some (114, 0) by decide +kernel) (rest := [.int 0, .ref l3]) rfl (as := [.ref l1, .int l2]) rfl h6 (Or.inl h7) ⟨Nat.le_of_ble_eq_true rfl, Nat.le_of_ble_eq_true rfl, Nat.le_of_ble_eq_true rfl⟩ h8
theorem b_113_7 {d : Nat} {Q : (Option Value ⊕ Nat) → mi_H → Prop} (n sl : Nat) (f : Nat → mi_C) {l1 : Nat} {l2 : Int32} {l3 : Nat} {o4 : Option Value} {s5 : Int64} {s6 : Int32} {s7 : Nat} (m8 i8 : Nat) (g8 : Nat → Int64) (h9 : f s7 = .inl (3, m8, .inr (.inl g8))) (h10 : s7 < n) (h11 : mi_ix s6 m8 i8) (h12 : mi_W d 113 14 [some (.ref l1), some (.int l2), some (.ref l3), o4] [] (n, sl, (va_up f s7 (.inl (3, m8, .inr (.inl (vp_updL g8 i8 s5)))))) Q) : mi_W d 113 7 [some (.ref l1), some (.int l2), some (.ref l3), o4] [.long s5, .int s6, .ref s7] (n, sl, f) Q := by
  refine w_lastore cd_113_7 h9 h10 h11 ?_
  exact w_goto cd_113_8 (by decide) h12
theorem b_113_11 {d : Nat} {Q : (Option Value ⊕ Nat) → mi_H → Prop} (n sl : Nat) (f : Nat → mi_C) {l1 : Nat} {l2 : Int32} {l3 : Nat} {o4 : Option Value} {s5 : Nat} (h6 : Q (.inl (some (.int 1))) (n, sl, f)) : mi_W d 113 11 [some (.ref l1), some (.int l2), some (.ref l3), o4] [.ref s5] (n, sl, f) Q := by
  refine w_astore_n (ls' := [some (.ref l1), some (.int l2), some (.ref l3), some (.ref s5)]) cd_113_11 (Nat.le_of_ble_eq_true rfl) rfl ?_
  refine w_iconst (v := 1) cd_113_12 (by decide) ?_
  exact w_ireturn_i cd_113_13 (by decide +kernel) h6
theorem b_113_14 {d : Nat} {Q : (Option Value ⊕ Nat) → mi_H → Prop} (n sl : Nat) (f : Nat → mi_C) {l1 : Nat} {l2 : Int32} {l3 : Nat} {o4 : Option Value} (h5 : Q (.inl (some (.int 0))) (n, sl, f)) : mi_W d 113 14 [some (.ref l1), some (.int l2), some (.ref l3), o4] [] (n, sl, f) Q := by
  refine w_iconst (v := 0) cd_113_14 (by decide) ?_
  exact w_ireturn_i cd_113_15 (by decide +kernel) h5
/-! MarloweHost.paid(I)J -/
set_option maxRecDepth 100000 in
theorem mq_114 : mt_q 114 = my_114 := rfl
set_option maxRecDepth 100000 in
theorem ci_114 : mt_inc 0 my_114.cd = true := by decide +kernel
theorem cd_114_0 : mt_cd 114 0 = some (.iload_n 1) := mt_cd_of (q := (0, .iload_n 1, 1)) mq_114 ci_114 (List.mem_of_getElem? (i := 0) rfl)
theorem cd_114_1 : mt_cd 114 1 = some (.ifCond .lt 17) := mt_cd_of (q := (1, .ifCond .lt 17, 3)) mq_114 ci_114 (List.mem_of_getElem? (i := 1) rfl)
theorem cd_114_4 : mt_cd 114 4 = some (.iload_n 1) := mt_cd_of (q := (4, .iload_n 1, 1)) mq_114 ci_114 (List.mem_of_getElem? (i := 2) rfl)
theorem cd_114_5 : mt_cd 114 5 = some (.aload_n 0) := mt_cd_of (q := (5, .aload_n 0, 1)) mq_114 ci_114 (List.mem_of_getElem? (i := 3) rfl)
theorem cd_114_6 : mt_cd 114 6 = some (.getfield 51) := mt_cd_of (q := (6, .getfield 51, 3)) mq_114 ci_114 (List.mem_of_getElem? (i := 4) rfl)
theorem cd_114_9 : mt_cd 114 9 = some (.getfield 156) := mt_cd_of (q := (9, .getfield 156, 3)) mq_114 ci_114 (List.mem_of_getElem? (i := 5) rfl)
theorem cd_114_12 : mt_cd 114 12 = some (.getfield 165) := mt_cd_of (q := (12, .getfield 165, 3)) mq_114 ci_114 (List.mem_of_getElem? (i := 6) rfl)
theorem cd_114_15 : mt_cd 114 15 = some (.if_icmp .lt 13) := mt_cd_of (q := (15, .if_icmp .lt 13, 3)) mq_114 ci_114 (List.mem_of_getElem? (i := 7) rfl)
theorem cd_114_18 : mt_cd 114 18 = some (.new 78) := mt_cd_of (q := (18, .new 78, 3)) mq_114 ci_114 (List.mem_of_getElem? (i := 8) rfl)
theorem cd_114_21 : mt_cd 114 21 = some (.dup) := mt_cd_of (q := (21, .dup, 1)) mq_114 ci_114 (List.mem_of_getElem? (i := 9) rfl)
theorem cd_114_22 : mt_cd 114 22 = some (.ldc 186) := mt_cd_of (q := (22, .ldc 186, 2)) mq_114 ci_114 (List.mem_of_getElem? (i := 10) rfl)
theorem cd_114_24 : mt_cd 114 24 = some (.invokespecial 82) := mt_cd_of (q := (24, .invokespecial 82, 3)) mq_114 ci_114 (List.mem_of_getElem? (i := 11) rfl)
theorem cd_114_27 : mt_cd 114 27 = some (.athrow) := mt_cd_of (q := (27, .athrow, 1)) mq_114 ci_114 (List.mem_of_getElem? (i := 12) rfl)
theorem cd_114_28 : mt_cd 114 28 = some (.aload_n 0) := mt_cd_of (q := (28, .aload_n 0, 1)) mq_114 ci_114 (List.mem_of_getElem? (i := 13) rfl)
theorem cd_114_29 : mt_cd 114 29 = some (.getfield 51) := mt_cd_of (q := (29, .getfield 51, 3)) mq_114 ci_114 (List.mem_of_getElem? (i := 14) rfl)
theorem cd_114_32 : mt_cd 114 32 = some (.getfield 156) := mt_cd_of (q := (32, .getfield 156, 3)) mq_114 ci_114 (List.mem_of_getElem? (i := 15) rfl)
theorem cd_114_35 : mt_cd 114 35 = some (.getfield 188) := mt_cd_of (q := (35, .getfield 188, 3)) mq_114 ci_114 (List.mem_of_getElem? (i := 16) rfl)
theorem cd_114_38 : mt_cd 114 38 = some (.iload_n 1) := mt_cd_of (q := (38, .iload_n 1, 1)) mq_114 ci_114 (List.mem_of_getElem? (i := 17) rfl)
theorem cd_114_39 : mt_cd 114 39 = some (.laload) := mt_cd_of (q := (39, .laload, 1)) mq_114 ci_114 (List.mem_of_getElem? (i := 18) rfl)
theorem cd_114_40 : mt_cd 114 40 = some (.lreturn) := mt_cd_of (q := (40, .lreturn, 1)) mq_114 ci_114 (List.mem_of_getElem? (i := 19) rfl)
theorem b_114_0 {d : Nat} {Q : (Option Value ⊕ Nat) → mi_H → Prop} (n sl : Nat) (f : Nat → mi_C) {l1 : Nat} {l2 : Int32} (h3 : l2 < (0 : Int32) → mi_W d 114 18 [some (.ref l1), some (.int l2)] [] (n, sl, f) Q) (h4 : ¬ (l2 < (0 : Int32)) → mi_W d 114 4 [some (.ref l1), some (.int l2)] [] (n, sl, f) Q) : mi_W d 114 0 [some (.ref l1), some (.int l2)] [] (n, sl, f) Q := by
  refine w_iload_n cd_114_0 rfl ?_
  exact w_iflt cd_114_1 (by decide) h3 h4
theorem b_114_4 {d : Nat} {Q : (Option Value ⊕ Nat) → mi_H → Prop} (n sl : Nat) (f : Nat → mi_C) {l1 : Nat} {l2 : Int32} {fs3 : List Value} {x6 : Nat} {fs8 : List Value} {x11 : Nat} {fs13 : List Value} {x16 : Int32} (h4 : f l1 = .inr (0, fs3)) (h5 : l1 < n) (h7 : fs3[5]? = some (.ref x6)) (h9 : f x6 = .inr (7, fs8)) (h10 : x6 < n) (h12 : fs8[7]? = some (.ref x11)) (h14 : f x11 = .inr (8, fs13)) (h15 : x11 < n) (h17 : fs13[7]? = some (.int x16)) (h18 : l2 < x16 → mi_W d 114 28 [some (.ref l1), some (.int l2)] [] (n, sl, f) Q) (h19 : ¬ (l2 < x16) → mi_W d 114 18 [some (.ref l1), some (.int l2)] [] (n, sl, f) Q) : mi_W d 114 4 [some (.ref l1), some (.int l2)] [] (n, sl, f) Q := by
  refine w_iload_n cd_114_4 rfl ?_
  refine w_aload_n cd_114_5 rfl ?_
  refine w_getfield cd_114_6 (show mt_f 0 51 = some (0, 5) by decide +kernel) h4 h5 h7 ?_
  refine w_getfield cd_114_9 (show mt_f 0 156 = some (7, 7) by decide +kernel) h9 h10 h12 ?_
  refine w_getfield cd_114_12 (show mt_f 0 165 = some (8, 7) by decide +kernel) h14 h15 h17 ?_
  exact w_if_icmplt cd_114_15 (by decide) h18 h19
theorem b_114_18 {d : Nat} {Q : (Option Value ⊕ Nat) → mi_H → Prop} (n sl : Nat) (f : Nat → mi_C) {l1 : Nat} {l2 : Int32} {h' : mi_H} (h3 : mi_t 114 18 (.new 78) [] (n, sl, f) = some h') (h4 : Q (.inr n) h') : mi_W d 114 18 [some (.ref l1), some (.int l2)] [] (n, sl, f) Q := by
  exact w_throw cd_114_18 (show mt_c 0 78 = some 14 by decide +kernel) (by decide) h3 h4
theorem b_114_28 {d : Nat} {Q : (Option Value ⊕ Nat) → mi_H → Prop} (n sl : Nat) (f : Nat → mi_C) {l1 : Nat} {l2 : Int32} {fs3 : List Value} {x6 : Nat} {fs8 : List Value} {x11 : Nat} {fs13 : List Value} {x16 : Nat} (m18 i18 : Nat) (g18 : Nat → Int64) (h4 : f l1 = .inr (0, fs3)) (h5 : l1 < n) (h7 : fs3[5]? = some (.ref x6)) (h9 : f x6 = .inr (7, fs8)) (h10 : x6 < n) (h12 : fs8[7]? = some (.ref x11)) (h14 : f x11 = .inr (8, fs13)) (h15 : x11 < n) (h17 : fs13[5]? = some (.ref x16)) (h19 : f x16 = .inl (3, m18, .inr (.inl g18))) (h20 : x16 < n) (h21 : mi_ix l2 m18 i18) (h22 : Q (.inl (some (.long (g18 i18)))) (n, sl, f)) : mi_W d 114 28 [some (.ref l1), some (.int l2)] [] (n, sl, f) Q := by
  refine w_aload_n cd_114_28 rfl ?_
  refine w_getfield cd_114_29 (show mt_f 0 51 = some (0, 5) by decide +kernel) h4 h5 h7 ?_
  refine w_getfield cd_114_32 (show mt_f 0 156 = some (7, 7) by decide +kernel) h9 h10 h12 ?_
  refine w_getfield cd_114_35 (show mt_f 0 188 = some (8, 5) by decide +kernel) h14 h15 h17 ?_
  refine w_iload_n cd_114_38 rfl ?_
  refine w_laload cd_114_39 h19 h20 h21 ?_
  exact w_lreturn cd_114_40 (by decide +kernel) h22
/-! MarloweHostLaw.state(LMarloweHost;III[J)I -/
set_option maxRecDepth 100000 in
theorem mq_115 : mt_q 115 = my_115 := rfl
set_option maxRecDepth 100000 in
theorem ci_115 : mt_inc 0 my_115.cd = true := by decide +kernel
theorem cd_115_0 : mt_cd 115 0 = some (.aload 4) := mt_cd_of (q := (0, .aload 4, 2)) mq_115 ci_115 (List.mem_of_getElem? (i := 0) rfl)
theorem cd_115_2 : mt_cd 115 2 = some (.iconst 0) := mt_cd_of (q := (2, .iconst 0, 1)) mq_115 ci_115 (List.mem_of_getElem? (i := 1) rfl)
theorem cd_115_3 : mt_cd 115 3 = some (.aload_n 0) := mt_cd_of (q := (3, .aload_n 0, 1)) mq_115 ci_115 (List.mem_of_getElem? (i := 2) rfl)
theorem cd_115_4 : mt_cd 115 4 = some (.iload_n 1) := mt_cd_of (q := (4, .iload_n 1, 1)) mq_115 ci_115 (List.mem_of_getElem? (i := 3) rfl)
theorem cd_115_5 : mt_cd 115 5 = some (.iload_n 2) := mt_cd_of (q := (5, .iload_n 2, 1)) mq_115 ci_115 (List.mem_of_getElem? (i := 4) rfl)
theorem cd_115_6 : mt_cd 115 6 = some (.iload_n 3) := mt_cd_of (q := (6, .iload_n 3, 1)) mq_115 ci_115 (List.mem_of_getElem? (i := 5) rfl)
theorem cd_115_7 : mt_cd 115 7 = some (.invokevirtual 51) := mt_cd_of (q := (7, .invokevirtual 51, 3)) mq_115 ci_115 (List.mem_of_getElem? (i := 6) rfl)
theorem cd_115_10 : mt_cd 115 10 = some (.lastore) := mt_cd_of (q := (10, .lastore, 1)) mq_115 ci_115 (List.mem_of_getElem? (i := 7) rfl)
theorem cd_115_11 : mt_cd 115 11 = some (.goto 11) := mt_cd_of (q := (11, .goto 11, 3)) mq_115 ci_115 (List.mem_of_getElem? (i := 8) rfl)
theorem cd_115_14 : mt_cd 115 14 = some (.astore 5) := mt_cd_of (q := (14, .astore 5, 2)) mq_115 ci_115 (List.mem_of_getElem? (i := 9) rfl)
theorem cd_115_16 : mt_cd 115 16 = some (.iconst 1) := mt_cd_of (q := (16, .iconst 1, 1)) mq_115 ci_115 (List.mem_of_getElem? (i := 10) rfl)
theorem cd_115_17 : mt_cd 115 17 = some (.ireturn) := mt_cd_of (q := (17, .ireturn, 1)) mq_115 ci_115 (List.mem_of_getElem? (i := 11) rfl)
theorem cd_115_18 : mt_cd 115 18 = some (.astore 5) := mt_cd_of (q := (18, .astore 5, 2)) mq_115 ci_115 (List.mem_of_getElem? (i := 12) rfl)
theorem cd_115_20 : mt_cd 115 20 = some (.iconst 2) := mt_cd_of (q := (20, .iconst 2, 1)) mq_115 ci_115 (List.mem_of_getElem? (i := 13) rfl)
theorem cd_115_21 : mt_cd 115 21 = some (.ireturn) := mt_cd_of (q := (21, .ireturn, 1)) mq_115 ci_115 (List.mem_of_getElem? (i := 14) rfl)
theorem cd_115_22 : mt_cd 115 22 = some (.iconst 0) := mt_cd_of (q := (22, .iconst 0, 1)) mq_115 ci_115 (List.mem_of_getElem? (i := 15) rfl)
theorem cd_115_23 : mt_cd 115 23 = some (.ireturn) := mt_cd_of (q := (23, .ireturn, 1)) mq_115 ci_115 (List.mem_of_getElem? (i := 16) rfl)
theorem b_115_0 {d : Nat} {Q : (Option Value ⊕ Nat) → mi_H → Prop} (n sl : Nat) (f : Nat → mi_C) {l1 : Nat} {l2 : Int32} {l3 : Int32} {l4 : Int32} {l5 : Nat} {o6 : Option Value} {fs7 : List Value} (h8 : f l1 = .inr (0, fs7)) (h9 : l1 < n) (h10 : mi_W d 116 0 (mi_en 4 [.ref l1, .int l2, .int l3, .int l4]) [] (n, sl, f) (mi_Kc d 115 7 [some (.ref l1), some (.int l2), some (.int l3), some (.int l4), some (.ref l5), o6] [.int 0, .ref l5] Q)) : mi_W (d + 1) 115 0 [some (.ref l1), some (.int l2), some (.int l3), some (.int l4), some (.ref l5), o6] [] (n, sl, f) Q := by
  refine w_aload cd_115_0 rfl ?_
  refine w_iconst (v := 0) cd_115_2 (by decide) ?_
  refine w_aload_n cd_115_3 rfl ?_
  refine w_iload_n cd_115_4 rfl ?_
  refine w_iload_n cd_115_5 rfl ?_
  refine w_iload_n cd_115_6 rfl ?_
  exact w_invokevirtual cd_115_7 (show mt_m 18 51 = some (116, 0) by decide +kernel) (rest := [.int 0, .ref l5]) rfl (as := [.ref l1, .int l2, .int l3, .int l4]) rfl h8 (Or.inl h9) ⟨Nat.le_of_ble_eq_true rfl, Nat.le_of_ble_eq_true rfl, Nat.le_of_ble_eq_true rfl⟩ h10
theorem b_115_10 {d : Nat} {Q : (Option Value ⊕ Nat) → mi_H → Prop} (n sl : Nat) (f : Nat → mi_C) {l1 : Nat} {l2 : Int32} {l3 : Int32} {l4 : Int32} {l5 : Nat} {o6 : Option Value} {s7 : Int64} {s8 : Int32} {s9 : Nat} (m10 i10 : Nat) (g10 : Nat → Int64) (h11 : f s9 = .inl (3, m10, .inr (.inl g10))) (h12 : s9 < n) (h13 : mi_ix s8 m10 i10) (h14 : mi_W d 115 22 [some (.ref l1), some (.int l2), some (.int l3), some (.int l4), some (.ref l5), o6] [] (n, sl, (va_up f s9 (.inl (3, m10, .inr (.inl (vp_updL g10 i10 s7)))))) Q) : mi_W d 115 10 [some (.ref l1), some (.int l2), some (.int l3), some (.int l4), some (.ref l5), o6] [.long s7, .int s8, .ref s9] (n, sl, f) Q := by
  refine w_lastore cd_115_10 h11 h12 h13 ?_
  exact w_goto cd_115_11 (by decide) h14
theorem b_115_14 {d : Nat} {Q : (Option Value ⊕ Nat) → mi_H → Prop} (n sl : Nat) (f : Nat → mi_C) {l1 : Nat} {l2 : Int32} {l3 : Int32} {l4 : Int32} {l5 : Nat} {o6 : Option Value} {s7 : Nat} (h8 : Q (.inl (some (.int 1))) (n, sl, f)) : mi_W d 115 14 [some (.ref l1), some (.int l2), some (.int l3), some (.int l4), some (.ref l5), o6] [.ref s7] (n, sl, f) Q := by
  refine w_astore (ls' := [some (.ref l1), some (.int l2), some (.int l3), some (.int l4), some (.ref l5), some (.ref s7)]) cd_115_14 (Nat.le_of_ble_eq_true rfl) rfl ?_
  refine w_iconst (v := 1) cd_115_16 (by decide) ?_
  exact w_ireturn_i cd_115_17 (by decide +kernel) h8
theorem b_115_18 {d : Nat} {Q : (Option Value ⊕ Nat) → mi_H → Prop} (n sl : Nat) (f : Nat → mi_C) {l1 : Nat} {l2 : Int32} {l3 : Int32} {l4 : Int32} {l5 : Nat} {o6 : Option Value} {s7 : Nat} (h8 : Q (.inl (some (.int 2))) (n, sl, f)) : mi_W d 115 18 [some (.ref l1), some (.int l2), some (.int l3), some (.int l4), some (.ref l5), o6] [.ref s7] (n, sl, f) Q := by
  refine w_astore (ls' := [some (.ref l1), some (.int l2), some (.int l3), some (.int l4), some (.ref l5), some (.ref s7)]) cd_115_18 (Nat.le_of_ble_eq_true rfl) rfl ?_
  refine w_iconst (v := 2) cd_115_20 (by decide) ?_
  exact w_ireturn_i cd_115_21 (by decide +kernel) h8
theorem b_115_22 {d : Nat} {Q : (Option Value ⊕ Nat) → mi_H → Prop} (n sl : Nat) (f : Nat → mi_C) {l1 : Nat} {l2 : Int32} {l3 : Int32} {l4 : Int32} {l5 : Nat} {o6 : Option Value} (h7 : Q (.inl (some (.int 0))) (n, sl, f)) : mi_W d 115 22 [some (.ref l1), some (.int l2), some (.int l3), some (.int l4), some (.ref l5), o6] [] (n, sl, f) Q := by
  refine w_iconst (v := 0) cd_115_22 (by decide) ?_
  exact w_ireturn_i cd_115_23 (by decide +kernel) h7
/-! MarloweHost.state(III)J -/
set_option maxRecDepth 100000 in
theorem mq_116 : mt_q 116 = my_116 := rfl
set_option maxRecDepth 100000 in
theorem ci_116 : mt_inc 0 my_116.cd = true := by decide +kernel
theorem cd_116_0 : mt_cd 116 0 = some (.iload_n 1) := mt_cd_of (q := (0, .iload_n 1, 1)) mq_116 ci_116 (List.mem_of_getElem? (i := 0) rfl)
theorem cd_116_1 : mt_cd 116 1 = some (.ifCond .lt 22) := mt_cd_of (q := (1, .ifCond .lt 22, 3)) mq_116 ci_116 (List.mem_of_getElem? (i := 1) rfl)
theorem cd_116_4 : mt_cd 116 4 = some (.iload_n 1) := mt_cd_of (q := (4, .iload_n 1, 1)) mq_116 ci_116 (List.mem_of_getElem? (i := 2) rfl)
theorem cd_116_5 : mt_cd 116 5 = some (.iconst 4) := mt_cd_of (q := (5, .iconst 4, 1)) mq_116 ci_116 (List.mem_of_getElem? (i := 3) rfl)
theorem cd_116_6 : mt_cd 116 6 = some (.if_icmp .gt 17) := mt_cd_of (q := (6, .if_icmp .gt 17, 3)) mq_116 ci_116 (List.mem_of_getElem? (i := 4) rfl)
theorem cd_116_9 : mt_cd 116 9 = some (.iload_n 2) := mt_cd_of (q := (9, .iload_n 2, 1)) mq_116 ci_116 (List.mem_of_getElem? (i := 5) rfl)
theorem cd_116_10 : mt_cd 116 10 = some (.invokestatic 114) := mt_cd_of (q := (10, .invokestatic 114, 3)) mq_116 ci_116 (List.mem_of_getElem? (i := 6) rfl)
theorem cd_116_13 : mt_cd 116 13 = some (.ifCond .eq 10) := mt_cd_of (q := (13, .ifCond .eq 10, 3)) mq_116 ci_116 (List.mem_of_getElem? (i := 7) rfl)
theorem cd_116_16 : mt_cd 116 16 = some (.iload_n 3) := mt_cd_of (q := (16, .iload_n 3, 1)) mq_116 ci_116 (List.mem_of_getElem? (i := 8) rfl)
theorem cd_116_17 : mt_cd 116 17 = some (.invokestatic 118) := mt_cd_of (q := (17, .invokestatic 118, 3)) mq_116 ci_116 (List.mem_of_getElem? (i := 9) rfl)
theorem cd_116_20 : mt_cd 116 20 = some (.ifCond .ne 13) := mt_cd_of (q := (20, .ifCond .ne 13, 3)) mq_116 ci_116 (List.mem_of_getElem? (i := 10) rfl)
theorem cd_116_23 : mt_cd 116 23 = some (.new 123) := mt_cd_of (q := (23, .new 123, 3)) mq_116 ci_116 (List.mem_of_getElem? (i := 11) rfl)
theorem cd_116_26 : mt_cd 116 26 = some (.dup) := mt_cd_of (q := (26, .dup, 1)) mq_116 ci_116 (List.mem_of_getElem? (i := 12) rfl)
theorem cd_116_27 : mt_cd 116 27 = some (.ldc 191) := mt_cd_of (q := (27, .ldc 191, 2)) mq_116 ci_116 (List.mem_of_getElem? (i := 13) rfl)
theorem cd_116_29 : mt_cd 116 29 = some (.invokespecial 127) := mt_cd_of (q := (29, .invokespecial 127, 3)) mq_116 ci_116 (List.mem_of_getElem? (i := 14) rfl)
theorem cd_116_32 : mt_cd 116 32 = some (.athrow) := mt_cd_of (q := (32, .athrow, 1)) mq_116 ci_116 (List.mem_of_getElem? (i := 15) rfl)
theorem cd_116_33 : mt_cd 116 33 = some (.iload_n 1) := mt_cd_of (q := (33, .iload_n 1, 1)) mq_116 ci_116 (List.mem_of_getElem? (i := 16) rfl)
theorem cd_116_34 : mt_cd 116 34 = some (.iconst 1) := mt_cd_of (q := (34, .iconst 1, 1)) mq_116 ci_116 (List.mem_of_getElem? (i := 17) rfl)
theorem cd_116_35 : mt_cd 116 35 = some (.if_icmp .ne 17) := mt_cd_of (q := (35, .if_icmp .ne 17, 3)) mq_116 ci_116 (List.mem_of_getElem? (i := 18) rfl)
theorem cd_116_38 : mt_cd 116 38 = some (.aload_n 0) := mt_cd_of (q := (38, .aload_n 0, 1)) mq_116 ci_116 (List.mem_of_getElem? (i := 19) rfl)
theorem cd_116_39 : mt_cd 116 39 = some (.getfield 35) := mt_cd_of (q := (39, .getfield 35, 3)) mq_116 ci_116 (List.mem_of_getElem? (i := 20) rfl)
theorem cd_116_42 : mt_cd 116 42 = some (.getfield 128) := mt_cd_of (q := (42, .getfield 128, 3)) mq_116 ci_116 (List.mem_of_getElem? (i := 21) rfl)
theorem cd_116_45 : mt_cd 116 45 = some (.iload_n 2) := mt_cd_of (q := (45, .iload_n 2, 1)) mq_116 ci_116 (List.mem_of_getElem? (i := 22) rfl)
theorem cd_116_46 : mt_cd 116 46 = some (.iconst 4) := mt_cd_of (q := (46, .iconst 4, 1)) mq_116 ci_116 (List.mem_of_getElem? (i := 23) rfl)
theorem cd_116_47 : mt_cd 116 47 = some (.imul) := mt_cd_of (q := (47, .imul, 1)) mq_116 ci_116 (List.mem_of_getElem? (i := 24) rfl)
theorem cd_116_48 : mt_cd 116 48 = some (.iload_n 3) := mt_cd_of (q := (48, .iload_n 3, 1)) mq_116 ci_116 (List.mem_of_getElem? (i := 25) rfl)
theorem cd_116_49 : mt_cd 116 49 = some (.iadd) := mt_cd_of (q := (49, .iadd, 1)) mq_116 ci_116 (List.mem_of_getElem? (i := 26) rfl)
theorem cd_116_50 : mt_cd 116 50 = some (.laload) := mt_cd_of (q := (50, .laload, 1)) mq_116 ci_116 (List.mem_of_getElem? (i := 27) rfl)
theorem cd_116_51 : mt_cd 116 51 = some (.lreturn) := mt_cd_of (q := (51, .lreturn, 1)) mq_116 ci_116 (List.mem_of_getElem? (i := 28) rfl)
theorem cd_116_52 : mt_cd 116 52 = some (.aload_n 0) := mt_cd_of (q := (52, .aload_n 0, 1)) mq_116 ci_116 (List.mem_of_getElem? (i := 29) rfl)
theorem cd_116_53 : mt_cd 116 53 = some (.invokevirtual 143) := mt_cd_of (q := (53, .invokevirtual 143, 3)) mq_116 ci_116 (List.mem_of_getElem? (i := 30) rfl)
theorem cd_116_56 : mt_cd 116 56 = some (.iload_n 1) := mt_cd_of (q := (56, .iload_n 1, 1)) mq_116 ci_116 (List.mem_of_getElem? (i := 31) rfl)
theorem cd_116_57 : mt_cd 116 57 = some (.tableswitch 65 0 3 #[31, 65, 45, 55]) := mt_cd_of (q := (57, .tableswitch 65 0 3 #[31, 65, 45, 55], 31)) mq_116 ci_116 (List.mem_of_getElem? (i := 32) rfl)
theorem cd_116_88 : mt_cd 116 88 = some (.aload_n 0) := mt_cd_of (q := (88, .aload_n 0, 1)) mq_116 ci_116 (List.mem_of_getElem? (i := 33) rfl)
theorem cd_116_89 : mt_cd 116 89 = some (.getfield 67) := mt_cd_of (q := (89, .getfield 67, 3)) mq_116 ci_116 (List.mem_of_getElem? (i := 34) rfl)
theorem cd_116_92 : mt_cd 116 92 = some (.getfield 193) := mt_cd_of (q := (92, .getfield 193, 3)) mq_116 ci_116 (List.mem_of_getElem? (i := 35) rfl)
theorem cd_116_95 : mt_cd 116 95 = some (.iload_n 2) := mt_cd_of (q := (95, .iload_n 2, 1)) mq_116 ci_116 (List.mem_of_getElem? (i := 36) rfl)
theorem cd_116_96 : mt_cd 116 96 = some (.iconst 4) := mt_cd_of (q := (96, .iconst 4, 1)) mq_116 ci_116 (List.mem_of_getElem? (i := 37) rfl)
theorem cd_116_97 : mt_cd 116 97 = some (.imul) := mt_cd_of (q := (97, .imul, 1)) mq_116 ci_116 (List.mem_of_getElem? (i := 38) rfl)
theorem cd_116_98 : mt_cd 116 98 = some (.iload_n 3) := mt_cd_of (q := (98, .iload_n 3, 1)) mq_116 ci_116 (List.mem_of_getElem? (i := 39) rfl)
theorem cd_116_99 : mt_cd 116 99 = some (.iadd) := mt_cd_of (q := (99, .iadd, 1)) mq_116 ci_116 (List.mem_of_getElem? (i := 40) rfl)
theorem cd_116_100 : mt_cd 116 100 = some (.laload) := mt_cd_of (q := (100, .laload, 1)) mq_116 ci_116 (List.mem_of_getElem? (i := 41) rfl)
theorem cd_116_101 : mt_cd 116 101 = some (.lreturn) := mt_cd_of (q := (101, .lreturn, 1)) mq_116 ci_116 (List.mem_of_getElem? (i := 42) rfl)
theorem cd_116_102 : mt_cd 116 102 = some (.aload_n 0) := mt_cd_of (q := (102, .aload_n 0, 1)) mq_116 ci_116 (List.mem_of_getElem? (i := 43) rfl)
theorem cd_116_103 : mt_cd 116 103 = some (.getfield 67) := mt_cd_of (q := (103, .getfield 67, 3)) mq_116 ci_116 (List.mem_of_getElem? (i := 44) rfl)
theorem cd_116_106 : mt_cd 116 106 = some (.getfield 196) := mt_cd_of (q := (106, .getfield 196, 3)) mq_116 ci_116 (List.mem_of_getElem? (i := 45) rfl)
theorem cd_116_109 : mt_cd 116 109 = some (.iload_n 2) := mt_cd_of (q := (109, .iload_n 2, 1)) mq_116 ci_116 (List.mem_of_getElem? (i := 46) rfl)
theorem cd_116_110 : mt_cd 116 110 = some (.laload) := mt_cd_of (q := (110, .laload, 1)) mq_116 ci_116 (List.mem_of_getElem? (i := 47) rfl)
theorem cd_116_111 : mt_cd 116 111 = some (.lreturn) := mt_cd_of (q := (111, .lreturn, 1)) mq_116 ci_116 (List.mem_of_getElem? (i := 48) rfl)
theorem cd_116_112 : mt_cd 116 112 = some (.aload_n 0) := mt_cd_of (q := (112, .aload_n 0, 1)) mq_116 ci_116 (List.mem_of_getElem? (i := 49) rfl)
theorem cd_116_113 : mt_cd 116 113 = some (.getfield 67) := mt_cd_of (q := (113, .getfield 67, 3)) mq_116 ci_116 (List.mem_of_getElem? (i := 50) rfl)
theorem cd_116_116 : mt_cd 116 116 = some (.getfield 199) := mt_cd_of (q := (116, .getfield 199, 3)) mq_116 ci_116 (List.mem_of_getElem? (i := 51) rfl)
theorem cd_116_119 : mt_cd 116 119 = some (.iload_n 2) := mt_cd_of (q := (119, .iload_n 2, 1)) mq_116 ci_116 (List.mem_of_getElem? (i := 52) rfl)
theorem cd_116_120 : mt_cd 116 120 = some (.laload) := mt_cd_of (q := (120, .laload, 1)) mq_116 ci_116 (List.mem_of_getElem? (i := 53) rfl)
theorem cd_116_121 : mt_cd 116 121 = some (.lreturn) := mt_cd_of (q := (121, .lreturn, 1)) mq_116 ci_116 (List.mem_of_getElem? (i := 54) rfl)
theorem cd_116_122 : mt_cd 116 122 = some (.aload_n 0) := mt_cd_of (q := (122, .aload_n 0, 1)) mq_116 ci_116 (List.mem_of_getElem? (i := 55) rfl)
theorem cd_116_123 : mt_cd 116 123 = some (.getfield 67) := mt_cd_of (q := (123, .getfield 67, 3)) mq_116 ci_116 (List.mem_of_getElem? (i := 56) rfl)
theorem cd_116_126 : mt_cd 116 126 = some (.getfield 202) := mt_cd_of (q := (126, .getfield 202, 3)) mq_116 ci_116 (List.mem_of_getElem? (i := 57) rfl)
theorem cd_116_129 : mt_cd 116 129 = some (.lreturn) := mt_cd_of (q := (129, .lreturn, 1)) mq_116 ci_116 (List.mem_of_getElem? (i := 58) rfl)
theorem b_116_0 {d : Nat} {Q : (Option Value ⊕ Nat) → mi_H → Prop} (n sl : Nat) (f : Nat → mi_C) {l1 : Nat} {l2 : Int32} {l3 : Int32} {l4 : Int32} (h5 : l2 < (0 : Int32) → mi_W d 116 23 [some (.ref l1), some (.int l2), some (.int l3), some (.int l4)] [] (n, sl, f) Q) (h6 : ¬ (l2 < (0 : Int32)) → mi_W d 116 4 [some (.ref l1), some (.int l2), some (.int l3), some (.int l4)] [] (n, sl, f) Q) : mi_W d 116 0 [some (.ref l1), some (.int l2), some (.int l3), some (.int l4)] [] (n, sl, f) Q := by
  refine w_iload_n cd_116_0 rfl ?_
  exact w_iflt cd_116_1 (by decide) h5 h6
theorem b_116_4 {d : Nat} {Q : (Option Value ⊕ Nat) → mi_H → Prop} (n sl : Nat) (f : Nat → mi_C) {l1 : Nat} {l2 : Int32} {l3 : Int32} {l4 : Int32} (h5 : 4 < l2 → mi_W d 116 23 [some (.ref l1), some (.int l2), some (.int l3), some (.int l4)] [] (n, sl, f) Q) (h6 : ¬ (4 < l2) → mi_W d 116 9 [some (.ref l1), some (.int l2), some (.int l3), some (.int l4)] [] (n, sl, f) Q) : mi_W d 116 4 [some (.ref l1), some (.int l2), some (.int l3), some (.int l4)] [] (n, sl, f) Q := by
  refine w_iload_n cd_116_4 rfl ?_
  refine w_iconst (v := 4) cd_116_5 (by decide) ?_
  exact w_if_icmpgt cd_116_6 (by decide) h5 h6
theorem b_116_9 {d : Nat} {Q : (Option Value ⊕ Nat) → mi_H → Prop} (n sl : Nat) (f : Nat → mi_C) {l1 : Nat} {l2 : Int32} {l3 : Int32} {l4 : Int32} (h5 : mi_W d 58 0 (mi_en 1 [.int l3]) [] (n, sl, f) (mi_Kc d 116 10 [some (.ref l1), some (.int l2), some (.int l3), some (.int l4)] [] Q)) : mi_W (d + 1) 116 9 [some (.ref l1), some (.int l2), some (.int l3), some (.int l4)] [] (n, sl, f) Q := by
  refine w_iload_n cd_116_9 rfl ?_
  exact w_invokestatic cd_116_10 (show mt_m 0 114 = some (58, 4) by decide +kernel) (by decide) (rest := []) rfl (as := [.int l3]) rfl ⟨Nat.le_of_ble_eq_true rfl, Nat.le_of_ble_eq_true rfl, Nat.le_of_ble_eq_true rfl⟩ h5
theorem b_116_13 {d : Nat} {Q : (Option Value ⊕ Nat) → mi_H → Prop} (n sl : Nat) (f : Nat → mi_C) {l1 : Nat} {l2 : Int32} {l3 : Int32} {l4 : Int32} {s5 : Int32} (h6 : s5 = (0 : Int32) → mi_W d 116 23 [some (.ref l1), some (.int l2), some (.int l3), some (.int l4)] [] (n, sl, f) Q) (h7 : ¬ (s5 = (0 : Int32)) → mi_W d 116 16 [some (.ref l1), some (.int l2), some (.int l3), some (.int l4)] [] (n, sl, f) Q) : mi_W d 116 13 [some (.ref l1), some (.int l2), some (.int l3), some (.int l4)] [.int s5] (n, sl, f) Q := by
  exact w_ifeq cd_116_13 (by decide) h6 h7
theorem b_116_16 {d : Nat} {Q : (Option Value ⊕ Nat) → mi_H → Prop} (n sl : Nat) (f : Nat → mi_C) {l1 : Nat} {l2 : Int32} {l3 : Int32} {l4 : Int32} (h5 : mi_W d 59 0 (mi_en 1 [.int l4]) [] (n, sl, f) (mi_Kc d 116 17 [some (.ref l1), some (.int l2), some (.int l3), some (.int l4)] [] Q)) : mi_W (d + 1) 116 16 [some (.ref l1), some (.int l2), some (.int l3), some (.int l4)] [] (n, sl, f) Q := by
  refine w_iload_n cd_116_16 rfl ?_
  exact w_invokestatic cd_116_17 (show mt_m 0 118 = some (59, 4) by decide +kernel) (by decide) (rest := []) rfl (as := [.int l4]) rfl ⟨Nat.le_of_ble_eq_true rfl, Nat.le_of_ble_eq_true rfl, Nat.le_of_ble_eq_true rfl⟩ h5
theorem b_116_20 {d : Nat} {Q : (Option Value ⊕ Nat) → mi_H → Prop} (n sl : Nat) (f : Nat → mi_C) {l1 : Nat} {l2 : Int32} {l3 : Int32} {l4 : Int32} {s5 : Int32} (h6 : ¬ s5 = (0 : Int32) → mi_W d 116 33 [some (.ref l1), some (.int l2), some (.int l3), some (.int l4)] [] (n, sl, f) Q) (h7 : ¬ (¬ s5 = (0 : Int32)) → mi_W d 116 23 [some (.ref l1), some (.int l2), some (.int l3), some (.int l4)] [] (n, sl, f) Q) : mi_W d 116 20 [some (.ref l1), some (.int l2), some (.int l3), some (.int l4)] [.int s5] (n, sl, f) Q := by
  exact w_ifne cd_116_20 (by decide) h6 h7
theorem b_116_23 {d : Nat} {Q : (Option Value ⊕ Nat) → mi_H → Prop} (n sl : Nat) (f : Nat → mi_C) {l1 : Nat} {l2 : Int32} {l3 : Int32} {l4 : Int32} {h' : mi_H} (h5 : mi_t 116 23 (.new 123) [] (n, sl, f) = some h') (h6 : Q (.inr n) h') : mi_W d 116 23 [some (.ref l1), some (.int l2), some (.int l3), some (.int l4)] [] (n, sl, f) Q := by
  exact w_throw cd_116_23 (show mt_c 0 123 = some 15 by decide +kernel) (by decide) h5 h6
theorem b_116_33 {d : Nat} {Q : (Option Value ⊕ Nat) → mi_H → Prop} (n sl : Nat) (f : Nat → mi_C) {l1 : Nat} {l2 : Int32} {l3 : Int32} {l4 : Int32} (h5 : ¬ l2 = 1 → mi_W d 116 52 [some (.ref l1), some (.int l2), some (.int l3), some (.int l4)] [] (n, sl, f) Q) (h6 : ¬ (¬ l2 = 1) → mi_W d 116 38 [some (.ref l1), some (.int l2), some (.int l3), some (.int l4)] [] (n, sl, f) Q) : mi_W d 116 33 [some (.ref l1), some (.int l2), some (.int l3), some (.int l4)] [] (n, sl, f) Q := by
  refine w_iload_n cd_116_33 rfl ?_
  refine w_iconst (v := 1) cd_116_34 (by decide) ?_
  exact w_if_icmpne cd_116_35 (by decide) h5 h6
theorem b_116_38 {d : Nat} {Q : (Option Value ⊕ Nat) → mi_H → Prop} (n sl : Nat) (f : Nat → mi_C) {l1 : Nat} {l2 : Int32} {l3 : Int32} {l4 : Int32} {fs5 : List Value} {x8 : Nat} {fs10 : List Value} {x13 : Nat} (m15 i15 : Nat) (g15 : Nat → Int64) (h6 : f l1 = .inr (0, fs5)) (h7 : l1 < n) (h9 : fs5[3]? = some (.ref x8)) (h11 : f x8 = .inr (5, fs10)) (h12 : x8 < n) (h14 : fs10[0]? = some (.ref x13)) (h16 : f x13 = .inl (3, m15, .inr (.inl g15))) (h17 : x13 < n) (h18 : mi_ix ((l3 * 4) + l4) m15 i15) (h19 : Q (.inl (some (.long (g15 i15)))) (n, sl, f)) : mi_W d 116 38 [some (.ref l1), some (.int l2), some (.int l3), some (.int l4)] [] (n, sl, f) Q := by
  refine w_aload_n cd_116_38 rfl ?_
  refine w_getfield cd_116_39 (show mt_f 0 35 = some (0, 3) by decide +kernel) h6 h7 h9 ?_
  refine w_getfield cd_116_42 (show mt_f 0 128 = some (5, 0) by decide +kernel) h11 h12 h14 ?_
  refine w_iload_n cd_116_45 rfl ?_
  refine w_iconst (v := 4) cd_116_46 (by decide) ?_
  refine w_imul cd_116_47 ?_
  refine w_iload_n cd_116_48 rfl ?_
  refine w_iadd cd_116_49 ?_
  refine w_laload cd_116_50 h16 h17 h18 ?_
  exact w_lreturn cd_116_51 (by decide +kernel) h19
theorem b_116_52 {d : Nat} {Q : (Option Value ⊕ Nat) → mi_H → Prop} (n sl : Nat) (f : Nat → mi_C) {l1 : Nat} {l2 : Int32} {l3 : Int32} {l4 : Int32} {fs5 : List Value} (h6 : f l1 = .inr (0, fs5)) (h7 : l1 < n) (h8 : mi_W d 70 0 (mi_en 1 [.ref l1]) [] (n, sl, f) (mi_Kc d 116 53 [some (.ref l1), some (.int l2), some (.int l3), some (.int l4)] [] Q)) : mi_W (d + 1) 116 52 [some (.ref l1), some (.int l2), some (.int l3), some (.int l4)] [] (n, sl, f) Q := by
  refine w_aload_n cd_116_52 rfl ?_
  exact w_invokevirtual cd_116_53 (show mt_m 0 143 = some (70, 0) by decide +kernel) (rest := []) rfl (as := [.ref l1]) rfl h6 (Or.inl h7) ⟨Nat.le_of_ble_eq_true rfl, Nat.le_of_ble_eq_true rfl, Nat.le_of_ble_eq_true rfl⟩ h8
theorem b_116_56 {d : Nat} {Q : (Option Value ⊕ Nat) → mi_H → Prop} (n sl : Nat) (f : Nat → mi_C) {l1 : Nat} {l2 : Int32} {l3 : Int32} {l4 : Int32} {t5 : Nat} (h6 : mi_ts 57 65 0 3 #[31, 65, 45, 55] (l2 : Int32).toInt = some t5) (h7 : mi_W d 116 t5 [some (.ref l1), some (.int l2), some (.int l3), some (.int l4)] [] (n, sl, f) Q) : mi_W d 116 56 [some (.ref l1), some (.int l2), some (.int l3), some (.int l4)] [] (n, sl, f) Q := by
  refine w_iload_n cd_116_56 rfl ?_
  exact w_tableswitch cd_116_57 h6 h7
theorem b_116_88 {d : Nat} {Q : (Option Value ⊕ Nat) → mi_H → Prop} (n sl : Nat) (f : Nat → mi_C) {l1 : Nat} {l2 : Int32} {l3 : Int32} {l4 : Int32} {fs5 : List Value} {x8 : Nat} {fs10 : List Value} {x13 : Nat} (m15 i15 : Nat) (g15 : Nat → Int64) (h6 : f l1 = .inr (0, fs5)) (h7 : l1 < n) (h9 : fs5[7]? = some (.ref x8)) (h11 : f x8 = .inr (9, fs10)) (h12 : x8 < n) (h14 : fs10[2]? = some (.ref x13)) (h16 : f x13 = .inl (3, m15, .inr (.inl g15))) (h17 : x13 < n) (h18 : mi_ix ((l3 * 4) + l4) m15 i15) (h19 : Q (.inl (some (.long (g15 i15)))) (n, sl, f)) : mi_W d 116 88 [some (.ref l1), some (.int l2), some (.int l3), some (.int l4)] [] (n, sl, f) Q := by
  refine w_aload_n cd_116_88 rfl ?_
  refine w_getfield cd_116_89 (show mt_f 0 67 = some (0, 7) by decide +kernel) h6 h7 h9 ?_
  refine w_getfield cd_116_92 (show mt_f 0 193 = some (9, 2) by decide +kernel) h11 h12 h14 ?_
  refine w_iload_n cd_116_95 rfl ?_
  refine w_iconst (v := 4) cd_116_96 (by decide) ?_
  refine w_imul cd_116_97 ?_
  refine w_iload_n cd_116_98 rfl ?_
  refine w_iadd cd_116_99 ?_
  refine w_laload cd_116_100 h16 h17 h18 ?_
  exact w_lreturn cd_116_101 (by decide +kernel) h19
theorem b_116_102 {d : Nat} {Q : (Option Value ⊕ Nat) → mi_H → Prop} (n sl : Nat) (f : Nat → mi_C) {l1 : Nat} {l2 : Int32} {l3 : Int32} {l4 : Int32} {fs5 : List Value} {x8 : Nat} {fs10 : List Value} {x13 : Nat} (m15 i15 : Nat) (g15 : Nat → Int64) (h6 : f l1 = .inr (0, fs5)) (h7 : l1 < n) (h9 : fs5[7]? = some (.ref x8)) (h11 : f x8 = .inr (9, fs10)) (h12 : x8 < n) (h14 : fs10[3]? = some (.ref x13)) (h16 : f x13 = .inl (3, m15, .inr (.inl g15))) (h17 : x13 < n) (h18 : mi_ix l3 m15 i15) (h19 : Q (.inl (some (.long (g15 i15)))) (n, sl, f)) : mi_W d 116 102 [some (.ref l1), some (.int l2), some (.int l3), some (.int l4)] [] (n, sl, f) Q := by
  refine w_aload_n cd_116_102 rfl ?_
  refine w_getfield cd_116_103 (show mt_f 0 67 = some (0, 7) by decide +kernel) h6 h7 h9 ?_
  refine w_getfield cd_116_106 (show mt_f 0 196 = some (9, 3) by decide +kernel) h11 h12 h14 ?_
  refine w_iload_n cd_116_109 rfl ?_
  refine w_laload cd_116_110 h16 h17 h18 ?_
  exact w_lreturn cd_116_111 (by decide +kernel) h19
theorem b_116_112 {d : Nat} {Q : (Option Value ⊕ Nat) → mi_H → Prop} (n sl : Nat) (f : Nat → mi_C) {l1 : Nat} {l2 : Int32} {l3 : Int32} {l4 : Int32} {fs5 : List Value} {x8 : Nat} {fs10 : List Value} {x13 : Nat} (m15 i15 : Nat) (g15 : Nat → Int64) (h6 : f l1 = .inr (0, fs5)) (h7 : l1 < n) (h9 : fs5[7]? = some (.ref x8)) (h11 : f x8 = .inr (9, fs10)) (h12 : x8 < n) (h14 : fs10[4]? = some (.ref x13)) (h16 : f x13 = .inl (3, m15, .inr (.inl g15))) (h17 : x13 < n) (h18 : mi_ix l3 m15 i15) (h19 : Q (.inl (some (.long (g15 i15)))) (n, sl, f)) : mi_W d 116 112 [some (.ref l1), some (.int l2), some (.int l3), some (.int l4)] [] (n, sl, f) Q := by
  refine w_aload_n cd_116_112 rfl ?_
  refine w_getfield cd_116_113 (show mt_f 0 67 = some (0, 7) by decide +kernel) h6 h7 h9 ?_
  refine w_getfield cd_116_116 (show mt_f 0 199 = some (9, 4) by decide +kernel) h11 h12 h14 ?_
  refine w_iload_n cd_116_119 rfl ?_
  refine w_laload cd_116_120 h16 h17 h18 ?_
  exact w_lreturn cd_116_121 (by decide +kernel) h19
theorem b_116_122 {d : Nat} {Q : (Option Value ⊕ Nat) → mi_H → Prop} (n sl : Nat) (f : Nat → mi_C) {l1 : Nat} {l2 : Int32} {l3 : Int32} {l4 : Int32} {fs5 : List Value} {x8 : Nat} {fs10 : List Value} {x13 : Int64} (h6 : f l1 = .inr (0, fs5)) (h7 : l1 < n) (h9 : fs5[7]? = some (.ref x8)) (h11 : f x8 = .inr (9, fs10)) (h12 : x8 < n) (h14 : fs10[1]? = some (.long x13)) (h15 : Q (.inl (some (.long x13))) (n, sl, f)) : mi_W d 116 122 [some (.ref l1), some (.int l2), some (.int l3), some (.int l4)] [] (n, sl, f) Q := by
  refine w_aload_n cd_116_122 rfl ?_
  refine w_getfield cd_116_123 (show mt_f 0 67 = some (0, 7) by decide +kernel) h6 h7 h9 ?_
  refine w_getfield cd_116_126 (show mt_f 0 202 = some (9, 1) by decide +kernel) h11 h12 h14 ?_
  exact w_lreturn cd_116_129 (by decide +kernel) h15
/-! MarloweHostLaw.analyse(LMarloweHost;[J)I -/
set_option maxRecDepth 100000 in
theorem mq_117 : mt_q 117 = my_117 := rfl
set_option maxRecDepth 100000 in
theorem ci_117 : mt_inc 0 my_117.cd = true := by decide +kernel
theorem cd_117_0 : mt_cd 117 0 = some (.aload_n 1) := mt_cd_of (q := (0, .aload_n 1, 1)) mq_117 ci_117 (List.mem_of_getElem? (i := 0) rfl)
theorem cd_117_1 : mt_cd 117 1 = some (.iconst 0) := mt_cd_of (q := (1, .iconst 0, 1)) mq_117 ci_117 (List.mem_of_getElem? (i := 1) rfl)
theorem cd_117_2 : mt_cd 117 2 = some (.aload_n 0) := mt_cd_of (q := (2, .aload_n 0, 1)) mq_117 ci_117 (List.mem_of_getElem? (i := 2) rfl)
theorem cd_117_3 : mt_cd 117 3 = some (.invokevirtual 55) := mt_cd_of (q := (3, .invokevirtual 55, 3)) mq_117 ci_117 (List.mem_of_getElem? (i := 3) rfl)
theorem cd_117_6 : mt_cd 117 6 = some (.i2l) := mt_cd_of (q := (6, .i2l, 1)) mq_117 ci_117 (List.mem_of_getElem? (i := 4) rfl)
theorem cd_117_7 : mt_cd 117 7 = some (.lastore) := mt_cd_of (q := (7, .lastore, 1)) mq_117 ci_117 (List.mem_of_getElem? (i := 5) rfl)
theorem cd_117_8 : mt_cd 117 8 = some (.goto 6) := mt_cd_of (q := (8, .goto 6, 3)) mq_117 ci_117 (List.mem_of_getElem? (i := 6) rfl)
theorem cd_117_11 : mt_cd 117 11 = some (.astore_n 2) := mt_cd_of (q := (11, .astore_n 2, 1)) mq_117 ci_117 (List.mem_of_getElem? (i := 7) rfl)
theorem cd_117_12 : mt_cd 117 12 = some (.iconst 1) := mt_cd_of (q := (12, .iconst 1, 1)) mq_117 ci_117 (List.mem_of_getElem? (i := 8) rfl)
theorem cd_117_13 : mt_cd 117 13 = some (.ireturn) := mt_cd_of (q := (13, .ireturn, 1)) mq_117 ci_117 (List.mem_of_getElem? (i := 9) rfl)
theorem cd_117_14 : mt_cd 117 14 = some (.iconst 0) := mt_cd_of (q := (14, .iconst 0, 1)) mq_117 ci_117 (List.mem_of_getElem? (i := 10) rfl)
theorem cd_117_15 : mt_cd 117 15 = some (.ireturn) := mt_cd_of (q := (15, .ireturn, 1)) mq_117 ci_117 (List.mem_of_getElem? (i := 11) rfl)
theorem b_117_0 {d : Nat} {Q : (Option Value ⊕ Nat) → mi_H → Prop} (n sl : Nat) (f : Nat → mi_C) {l1 : Nat} {l2 : Nat} {o3 : Option Value} {fs4 : List Value} (h5 : f l1 = .inr (0, fs4)) (h6 : l1 < n) (h7 : mi_W d 118 0 (mi_en 1 [.ref l1]) [] (n, sl, f) (mi_Kc d 117 3 [some (.ref l1), some (.ref l2), o3] [.int 0, .ref l2] Q)) : mi_W (d + 1) 117 0 [some (.ref l1), some (.ref l2), o3] [] (n, sl, f) Q := by
  refine w_aload_n cd_117_0 rfl ?_
  refine w_iconst (v := 0) cd_117_1 (by decide) ?_
  refine w_aload_n cd_117_2 rfl ?_
  exact w_invokevirtual cd_117_3 (show mt_m 18 55 = some (118, 0) by decide +kernel) (rest := [.int 0, .ref l2]) rfl (as := [.ref l1]) rfl h5 (Or.inl h6) ⟨Nat.le_of_ble_eq_true rfl, Nat.le_of_ble_eq_true rfl, Nat.le_of_ble_eq_true rfl⟩ h7
theorem b_117_6 {d : Nat} {Q : (Option Value ⊕ Nat) → mi_H → Prop} (n sl : Nat) (f : Nat → mi_C) {l1 : Nat} {l2 : Nat} {o3 : Option Value} {s4 : Int32} {s5 : Int32} {s6 : Nat} (m7 i7 : Nat) (g7 : Nat → Int64) (h8 : f s6 = .inl (3, m7, .inr (.inl g7))) (h9 : s6 < n) (h10 : mi_ix s5 m7 i7) (h11 : mi_W d 117 14 [some (.ref l1), some (.ref l2), o3] [] (n, sl, (va_up f s6 (.inl (3, m7, .inr (.inl (vp_updL g7 i7 ((s4 : Int32).toInt64))))))) Q) : mi_W d 117 6 [some (.ref l1), some (.ref l2), o3] [.int s4, .int s5, .ref s6] (n, sl, f) Q := by
  refine w_i2l cd_117_6 ?_
  refine w_lastore cd_117_7 h8 h9 h10 ?_
  exact w_goto cd_117_8 (by decide) h11
theorem b_117_11 {d : Nat} {Q : (Option Value ⊕ Nat) → mi_H → Prop} (n sl : Nat) (f : Nat → mi_C) {l1 : Nat} {l2 : Nat} {o3 : Option Value} {s4 : Nat} (h5 : Q (.inl (some (.int 1))) (n, sl, f)) : mi_W d 117 11 [some (.ref l1), some (.ref l2), o3] [.ref s4] (n, sl, f) Q := by
  refine w_astore_n (ls' := [some (.ref l1), some (.ref l2), some (.ref s4)]) cd_117_11 (Nat.le_of_ble_eq_true rfl) rfl ?_
  refine w_iconst (v := 1) cd_117_12 (by decide) ?_
  exact w_ireturn_i cd_117_13 (by decide +kernel) h5
theorem b_117_14 {d : Nat} {Q : (Option Value ⊕ Nat) → mi_H → Prop} (n sl : Nat) (f : Nat → mi_C) {l1 : Nat} {l2 : Nat} {o3 : Option Value} (h4 : Q (.inl (some (.int 0))) (n, sl, f)) : mi_W d 117 14 [some (.ref l1), some (.ref l2), o3] [] (n, sl, f) Q := by
  refine w_iconst (v := 0) cd_117_14 (by decide) ?_
  exact w_ireturn_i cd_117_15 (by decide +kernel) h4
/-! MarloweHost.analyse()I -/
set_option maxRecDepth 100000 in
theorem mq_118 : mt_q 118 = my_118 := rfl
set_option maxRecDepth 100000 in
theorem ci_118 : mt_inc 0 my_118.cd = true := by decide +kernel
theorem cd_118_0 : mt_cd 118 0 = some (.aload_n 0) := mt_cd_of (q := (0, .aload_n 0, 1)) mq_118 ci_118 (List.mem_of_getElem? (i := 0) rfl)
theorem cd_118_1 : mt_cd 118 1 = some (.invokevirtual 143) := mt_cd_of (q := (1, .invokevirtual 143, 3)) mq_118 ci_118 (List.mem_of_getElem? (i := 1) rfl)
theorem cd_118_4 : mt_cd 118 4 = some (.aload_n 0) := mt_cd_of (q := (4, .aload_n 0, 1)) mq_118 ci_118 (List.mem_of_getElem? (i := 2) rfl)
theorem cd_118_5 : mt_cd 118 5 = some (.getfield 60) := mt_cd_of (q := (5, .getfield 60, 3)) mq_118 ci_118 (List.mem_of_getElem? (i := 3) rfl)
theorem cd_118_8 : mt_cd 118 8 = some (.aload_n 0) := mt_cd_of (q := (8, .aload_n 0, 1)) mq_118 ci_118 (List.mem_of_getElem? (i := 4) rfl)
theorem cd_118_9 : mt_cd 118 9 = some (.getfield 67) := mt_cd_of (q := (9, .getfield 67, 3)) mq_118 ci_118 (List.mem_of_getElem? (i := 5) rfl)
theorem cd_118_12 : mt_cd 118 12 = some (.invokevirtual 206) := mt_cd_of (q := (12, .invokevirtual 206, 3)) mq_118 ci_118 (List.mem_of_getElem? (i := 6) rfl)
theorem cd_118_15 : mt_cd 118 15 = some (.ireturn) := mt_cd_of (q := (15, .ireturn, 1)) mq_118 ci_118 (List.mem_of_getElem? (i := 7) rfl)
theorem b_118_0 {d : Nat} {Q : (Option Value ⊕ Nat) → mi_H → Prop} (n sl : Nat) (f : Nat → mi_C) {l1 : Nat} {fs2 : List Value} (h3 : f l1 = .inr (0, fs2)) (h4 : l1 < n) (h5 : mi_W d 70 0 (mi_en 1 [.ref l1]) [] (n, sl, f) (mi_Kc d 118 1 [some (.ref l1)] [] Q)) : mi_W (d + 1) 118 0 [some (.ref l1)] [] (n, sl, f) Q := by
  refine w_aload_n cd_118_0 rfl ?_
  exact w_invokevirtual cd_118_1 (show mt_m 0 143 = some (70, 0) by decide +kernel) (rest := []) rfl (as := [.ref l1]) rfl h3 (Or.inl h4) ⟨Nat.le_of_ble_eq_true rfl, Nat.le_of_ble_eq_true rfl, Nat.le_of_ble_eq_true rfl⟩ h5
theorem b_118_4 {d : Nat} {Q : (Option Value ⊕ Nat) → mi_H → Prop} (n sl : Nat) (f : Nat → mi_C) {l1 : Nat} {fs2 : List Value} {x5 : Nat} {fs7 : List Value} {x10 : Nat} {fs12 : List Value} (h3 : f l1 = .inr (0, fs2)) (h4 : l1 < n) (h6 : fs2[6]? = some (.ref x5)) (h8 : f l1 = .inr (0, fs7)) (h9 : l1 < n) (h11 : fs7[7]? = some (.ref x10)) (h13 : f x5 = .inr (11, fs12)) (h14 : x5 < n) (h15 : mi_W d 119 0 (mi_en 4 [.ref x5, .ref x10]) [] (n, sl, f) (mi_Kc d 118 12 [some (.ref l1)] [] Q)) : mi_W (d + 1) 118 4 [some (.ref l1)] [] (n, sl, f) Q := by
  refine w_aload_n cd_118_4 rfl ?_
  refine w_getfield cd_118_5 (show mt_f 0 60 = some (0, 6) by decide +kernel) h3 h4 h6 ?_
  refine w_aload_n cd_118_8 rfl ?_
  refine w_getfield cd_118_9 (show mt_f 0 67 = some (0, 7) by decide +kernel) h8 h9 h11 ?_
  exact w_invokevirtual cd_118_12 (show mt_m 0 206 = some (119, 0) by decide +kernel) (rest := []) rfl (as := [.ref x5, .ref x10]) rfl h13 (Or.inl h14) ⟨Nat.le_of_ble_eq_true rfl, Nat.le_of_ble_eq_true rfl, Nat.le_of_ble_eq_true rfl⟩ h15
theorem b_118_15 {d : Nat} {Q : (Option Value ⊕ Nat) → mi_H → Prop} (n sl : Nat) (f : Nat → mi_C) {l1 : Nat} {s2 : Int32} (h3 : Q (.inl (some (.int s2))) (n, sl, f)) : mi_W d 118 15 [some (.ref l1)] [.int s2] (n, sl, f) Q := by
  exact w_ireturn_i cd_118_15 (by decide +kernel) h3
/-! MarloweHost$Analyser.look(LMarloweHost$Situation;)I -/
set_option maxRecDepth 100000 in
theorem mq_119 : mt_q 119 = my_119 := rfl
set_option maxRecDepth 100000 in
theorem ci_119 : mt_inc 0 my_119.cd = true := by decide +kernel
theorem cd_119_0 : mt_cd 119 0 = some (.aload_n 0) := mt_cd_of (q := (0, .aload_n 0, 1)) mq_119 ci_119 (List.mem_of_getElem? (i := 0) rfl)
theorem cd_119_1 : mt_cd 119 1 = some (.iconst 0) := mt_cd_of (q := (1, .iconst 0, 1)) mq_119 ci_119 (List.mem_of_getElem? (i := 1) rfl)
theorem cd_119_2 : mt_cd 119 2 = some (.putfield 64) := mt_cd_of (q := (2, .putfield 64, 3)) mq_119 ci_119 (List.mem_of_getElem? (i := 2) rfl)
theorem cd_119_5 : mt_cd 119 5 = some (.aload_n 0) := mt_cd_of (q := (5, .aload_n 0, 1)) mq_119 ci_119 (List.mem_of_getElem? (i := 3) rfl)
theorem cd_119_6 : mt_cd 119 6 = some (.iconst 0) := mt_cd_of (q := (6, .iconst 0, 1)) mq_119 ci_119 (List.mem_of_getElem? (i := 4) rfl)
theorem cd_119_7 : mt_cd 119 7 = some (.putfield 68) := mt_cd_of (q := (7, .putfield 68, 3)) mq_119 ci_119 (List.mem_of_getElem? (i := 5) rfl)
theorem cd_119_10 : mt_cd 119 10 = some (.aload_n 0) := mt_cd_of (q := (10, .aload_n 0, 1)) mq_119 ci_119 (List.mem_of_getElem? (i := 6) rfl)
theorem cd_119_11 : mt_cd 119 11 = some (.getfield 41) := mt_cd_of (q := (11, .getfield 41, 3)) mq_119 ci_119 (List.mem_of_getElem? (i := 7) rfl)
theorem cd_119_14 : mt_cd 119 14 = some (.aload_n 1) := mt_cd_of (q := (14, .aload_n 1, 1)) mq_119 ci_119 (List.mem_of_getElem? (i := 8) rfl)
theorem cd_119_15 : mt_cd 119 15 = some (.getfield 71) := mt_cd_of (q := (15, .getfield 71, 3)) mq_119 ci_119 (List.mem_of_getElem? (i := 9) rfl)
theorem cd_119_18 : mt_cd 119 18 = some (.invokevirtual 74) := mt_cd_of (q := (18, .invokevirtual 74, 3)) mq_119 ci_119 (List.mem_of_getElem? (i := 10) rfl)
theorem cd_119_21 : mt_cd 119 21 = some (.ifCond .eq 5) := mt_cd_of (q := (21, .ifCond .eq 5, 3)) mq_119 ci_119 (List.mem_of_getElem? (i := 11) rfl)
theorem cd_119_24 : mt_cd 119 24 = some (.iconst 3) := mt_cd_of (q := (24, .iconst 3, 1)) mq_119 ci_119 (List.mem_of_getElem? (i := 12) rfl)
theorem cd_119_25 : mt_cd 119 25 = some (.ireturn) := mt_cd_of (q := (25, .ireturn, 1)) mq_119 ci_119 (List.mem_of_getElem? (i := 13) rfl)
theorem cd_119_26 : mt_cd 119 26 = some (.iconst 0) := mt_cd_of (q := (26, .iconst 0, 1)) mq_119 ci_119 (List.mem_of_getElem? (i := 14) rfl)
theorem cd_119_27 : mt_cd 119 27 = some (.istore_n 2) := mt_cd_of (q := (27, .istore_n 2, 1)) mq_119 ci_119 (List.mem_of_getElem? (i := 15) rfl)
theorem cd_119_28 : mt_cd 119 28 = some (.aload_n 0) := mt_cd_of (q := (28, .aload_n 0, 1)) mq_119 ci_119 (List.mem_of_getElem? (i := 16) rfl)
theorem cd_119_29 : mt_cd 119 29 = some (.getfield 20) := mt_cd_of (q := (29, .getfield 20, 3)) mq_119 ci_119 (List.mem_of_getElem? (i := 17) rfl)
theorem cd_119_32 : mt_cd 119 32 = some (.iload_n 2) := mt_cd_of (q := (32, .iload_n 2, 1)) mq_119 ci_119 (List.mem_of_getElem? (i := 18) rfl)
theorem cd_119_33 : mt_cd 119 33 = some (.aaload) := mt_cd_of (q := (33, .aaload, 1)) mq_119 ci_119 (List.mem_of_getElem? (i := 19) rfl)
theorem cd_119_34 : mt_cd 119 34 = some (.aload_n 1) := mt_cd_of (q := (34, .aload_n 1, 1)) mq_119 ci_119 (List.mem_of_getElem? (i := 20) rfl)
theorem cd_119_35 : mt_cd 119 35 = some (.invokevirtual 80) := mt_cd_of (q := (35, .invokevirtual 80, 3)) mq_119 ci_119 (List.mem_of_getElem? (i := 21) rfl)
theorem cd_119_38 : mt_cd 119 38 = some (.aload_n 0) := mt_cd_of (q := (38, .aload_n 0, 1)) mq_119 ci_119 (List.mem_of_getElem? (i := 22) rfl)
theorem cd_119_39 : mt_cd 119 39 = some (.getfield 24) := mt_cd_of (q := (39, .getfield 24, 3)) mq_119 ci_119 (List.mem_of_getElem? (i := 23) rfl)
theorem cd_119_42 : mt_cd 119 42 = some (.iload_n 2) := mt_cd_of (q := (42, .iload_n 2, 1)) mq_119 ci_119 (List.mem_of_getElem? (i := 24) rfl)
theorem cd_119_43 : mt_cd 119 43 = some (.bipush (-3)) := mt_cd_of (q := (43, .bipush (-3), 2)) mq_119 ci_119 (List.mem_of_getElem? (i := 25) rfl)
theorem cd_119_45 : mt_cd 119 45 = some (.iastore) := mt_cd_of (q := (45, .iastore, 1)) mq_119 ci_119 (List.mem_of_getElem? (i := 26) rfl)
theorem cd_119_46 : mt_cd 119 46 = some (.iconst 0) := mt_cd_of (q := (46, .iconst 0, 1)) mq_119 ci_119 (List.mem_of_getElem? (i := 27) rfl)
theorem cd_119_47 : mt_cd 119 47 = some (.istore_n 3) := mt_cd_of (q := (47, .istore_n 3, 1)) mq_119 ci_119 (List.mem_of_getElem? (i := 28) rfl)
theorem cd_119_48 : mt_cd 119 48 = some (.iload_n 3) := mt_cd_of (q := (48, .iload_n 3, 1)) mq_119 ci_119 (List.mem_of_getElem? (i := 29) rfl)
theorem cd_119_49 : mt_cd 119 49 = some (.sipush 20000) := mt_cd_of (q := (49, .sipush 20000, 3)) mq_119 ci_119 (List.mem_of_getElem? (i := 30) rfl)
theorem cd_119_52 : mt_cd 119 52 = some (.if_icmp .ge 99) := mt_cd_of (q := (52, .if_icmp .ge 99, 3)) mq_119 ci_119 (List.mem_of_getElem? (i := 31) rfl)
theorem cd_119_55 : mt_cd 119 55 = some (.iload_n 2) := mt_cd_of (q := (55, .iload_n 2, 1)) mq_119 ci_119 (List.mem_of_getElem? (i := 32) rfl)
theorem cd_119_56 : mt_cd 119 56 = some (.ifCond .lt 95) := mt_cd_of (q := (56, .ifCond .lt 95, 3)) mq_119 ci_119 (List.mem_of_getElem? (i := 33) rfl)
theorem cd_119_59 : mt_cd 119 59 = some (.iload_n 2) := mt_cd_of (q := (59, .iload_n 2, 1)) mq_119 ci_119 (List.mem_of_getElem? (i := 34) rfl)
theorem cd_119_60 : mt_cd 119 60 = some (.iconst 1) := mt_cd_of (q := (60, .iconst 1, 1)) mq_119 ci_119 (List.mem_of_getElem? (i := 35) rfl)
theorem cd_119_61 : mt_cd 119 61 = some (.iadd) := mt_cd_of (q := (61, .iadd, 1)) mq_119 ci_119 (List.mem_of_getElem? (i := 36) rfl)
theorem cd_119_62 : mt_cd 119 62 = some (.bipush 104) := mt_cd_of (q := (62, .bipush 104, 2)) mq_119 ci_119 (List.mem_of_getElem? (i := 37) rfl)
theorem cd_119_64 : mt_cd 119 64 = some (.if_icmp .ge 11) := mt_cd_of (q := (64, .if_icmp .ge 11, 3)) mq_119 ci_119 (List.mem_of_getElem? (i := 38) rfl)
theorem cd_119_67 : mt_cd 119 67 = some (.aload_n 0) := mt_cd_of (q := (67, .aload_n 0, 1)) mq_119 ci_119 (List.mem_of_getElem? (i := 39) rfl)
theorem cd_119_68 : mt_cd 119 68 = some (.iload_n 2) := mt_cd_of (q := (68, .iload_n 2, 1)) mq_119 ci_119 (List.mem_of_getElem? (i := 40) rfl)
theorem cd_119_69 : mt_cd 119 69 = some (.invokevirtual 84) := mt_cd_of (q := (69, .invokevirtual 84, 3)) mq_119 ci_119 (List.mem_of_getElem? (i := 41) rfl)
theorem cd_119_72 : mt_cd 119 72 = some (.ifCond .ne 9) := mt_cd_of (q := (72, .ifCond .ne 9, 3)) mq_119 ci_119 (List.mem_of_getElem? (i := 42) rfl)
theorem cd_119_75 : mt_cd 119 75 = some (.iinc 2 (-1)) := mt_cd_of (q := (75, .iinc 2 (-1), 3)) mq_119 ci_119 (List.mem_of_getElem? (i := 43) rfl)
theorem cd_119_78 : mt_cd 119 78 = some (.goto 67) := mt_cd_of (q := (78, .goto 67, 3)) mq_119 ci_119 (List.mem_of_getElem? (i := 44) rfl)
theorem cd_119_81 : mt_cd 119 81 = some (.aload_n 0) := mt_cd_of (q := (81, .aload_n 0, 1)) mq_119 ci_119 (List.mem_of_getElem? (i := 45) rfl)
theorem cd_119_82 : mt_cd 119 82 = some (.dup) := mt_cd_of (q := (82, .dup, 1)) mq_119 ci_119 (List.mem_of_getElem? (i := 46) rfl)
theorem cd_119_83 : mt_cd 119 83 = some (.getfield 64) := mt_cd_of (q := (83, .getfield 64, 3)) mq_119 ci_119 (List.mem_of_getElem? (i := 47) rfl)
theorem cd_119_86 : mt_cd 119 86 = some (.iconst 1) := mt_cd_of (q := (86, .iconst 1, 1)) mq_119 ci_119 (List.mem_of_getElem? (i := 48) rfl)
theorem cd_119_87 : mt_cd 119 87 = some (.iadd) := mt_cd_of (q := (87, .iadd, 1)) mq_119 ci_119 (List.mem_of_getElem? (i := 49) rfl)
theorem cd_119_88 : mt_cd 119 88 = some (.putfield 64) := mt_cd_of (q := (88, .putfield 64, 3)) mq_119 ci_119 (List.mem_of_getElem? (i := 50) rfl)
theorem cd_119_91 : mt_cd 119 91 = some (.aload_n 0) := mt_cd_of (q := (91, .aload_n 0, 1)) mq_119 ci_119 (List.mem_of_getElem? (i := 51) rfl)
theorem cd_119_92 : mt_cd 119 92 = some (.getfield 64) := mt_cd_of (q := (92, .getfield 64, 3)) mq_119 ci_119 (List.mem_of_getElem? (i := 52) rfl)
theorem cd_119_95 : mt_cd 119 95 = some (.sipush 5000) := mt_cd_of (q := (95, .sipush 5000, 3)) mq_119 ci_119 (List.mem_of_getElem? (i := 53) rfl)
theorem cd_119_98 : mt_cd 119 98 = some (.if_icmp .le 5) := mt_cd_of (q := (98, .if_icmp .le 5, 3)) mq_119 ci_119 (List.mem_of_getElem? (i := 54) rfl)
theorem cd_119_101 : mt_cd 119 101 = some (.iconst 2) := mt_cd_of (q := (101, .iconst 2, 1)) mq_119 ci_119 (List.mem_of_getElem? (i := 55) rfl)
theorem cd_119_102 : mt_cd 119 102 = some (.ireturn) := mt_cd_of (q := (102, .ireturn, 1)) mq_119 ci_119 (List.mem_of_getElem? (i := 56) rfl)
theorem cd_119_103 : mt_cd 119 103 = some (.aload_n 0) := mt_cd_of (q := (103, .aload_n 0, 1)) mq_119 ci_119 (List.mem_of_getElem? (i := 57) rfl)
theorem cd_119_104 : mt_cd 119 104 = some (.iload_n 2) := mt_cd_of (q := (104, .iload_n 2, 1)) mq_119 ci_119 (List.mem_of_getElem? (i := 58) rfl)
theorem cd_119_105 : mt_cd 119 105 = some (.invokevirtual 87) := mt_cd_of (q := (105, .invokevirtual 87, 3)) mq_119 ci_119 (List.mem_of_getElem? (i := 59) rfl)
theorem cd_119_108 : mt_cd 119 108 = some (.ifCond .ne 6) := mt_cd_of (q := (108, .ifCond .ne 6, 3)) mq_119 ci_119 (List.mem_of_getElem? (i := 60) rfl)
theorem cd_119_111 : mt_cd 119 111 = some (.goto 34) := mt_cd_of (q := (111, .goto 34, 3)) mq_119 ci_119 (List.mem_of_getElem? (i := 61) rfl)
theorem cd_119_114 : mt_cd 119 114 = some (.iinc 2 1) := mt_cd_of (q := (114, .iinc 2 1, 3)) mq_119 ci_119 (List.mem_of_getElem? (i := 62) rfl)
theorem cd_119_117 : mt_cd 119 117 = some (.aload_n 0) := mt_cd_of (q := (117, .aload_n 0, 1)) mq_119 ci_119 (List.mem_of_getElem? (i := 63) rfl)
theorem cd_119_118 : mt_cd 119 118 = some (.getfield 50) := mt_cd_of (q := (118, .getfield 50, 3)) mq_119 ci_119 (List.mem_of_getElem? (i := 64) rfl)
theorem cd_119_121 : mt_cd 119 121 = some (.getfield 90) := mt_cd_of (q := (121, .getfield 90, 3)) mq_119 ci_119 (List.mem_of_getElem? (i := 65) rfl)
theorem cd_119_124 : mt_cd 119 124 = some (.getfield 94) := mt_cd_of (q := (124, .getfield 94, 3)) mq_119 ci_119 (List.mem_of_getElem? (i := 66) rfl)
theorem cd_119_127 : mt_cd 119 127 = some (.ifCond .le 10) := mt_cd_of (q := (127, .ifCond .le 10, 3)) mq_119 ci_119 (List.mem_of_getElem? (i := 67) rfl)
theorem cd_119_130 : mt_cd 119 130 = some (.aload_n 0) := mt_cd_of (q := (130, .aload_n 0, 1)) mq_119 ci_119 (List.mem_of_getElem? (i := 68) rfl)
theorem cd_119_131 : mt_cd 119 131 = some (.iload_n 2) := mt_cd_of (q := (131, .iload_n 2, 1)) mq_119 ci_119 (List.mem_of_getElem? (i := 69) rfl)
theorem cd_119_132 : mt_cd 119 132 = some (.putfield 68) := mt_cd_of (q := (132, .putfield 68, 3)) mq_119 ci_119 (List.mem_of_getElem? (i := 70) rfl)
theorem cd_119_135 : mt_cd 119 135 = some (.iconst 1) := mt_cd_of (q := (135, .iconst 1, 1)) mq_119 ci_119 (List.mem_of_getElem? (i := 71) rfl)
theorem cd_119_136 : mt_cd 119 136 = some (.ireturn) := mt_cd_of (q := (136, .ireturn, 1)) mq_119 ci_119 (List.mem_of_getElem? (i := 72) rfl)
theorem cd_119_137 : mt_cd 119 137 = some (.aload_n 0) := mt_cd_of (q := (137, .aload_n 0, 1)) mq_119 ci_119 (List.mem_of_getElem? (i := 73) rfl)
theorem cd_119_138 : mt_cd 119 138 = some (.getfield 24) := mt_cd_of (q := (138, .getfield 24, 3)) mq_119 ci_119 (List.mem_of_getElem? (i := 74) rfl)
theorem cd_119_141 : mt_cd 119 141 = some (.iload_n 2) := mt_cd_of (q := (141, .iload_n 2, 1)) mq_119 ci_119 (List.mem_of_getElem? (i := 75) rfl)
theorem cd_119_142 : mt_cd 119 142 = some (.bipush (-3)) := mt_cd_of (q := (142, .bipush (-3), 2)) mq_119 ci_119 (List.mem_of_getElem? (i := 76) rfl)
theorem cd_119_144 : mt_cd 119 144 = some (.iastore) := mt_cd_of (q := (144, .iastore, 1)) mq_119 ci_119 (List.mem_of_getElem? (i := 77) rfl)
theorem cd_119_145 : mt_cd 119 145 = some (.iinc 3 1) := mt_cd_of (q := (145, .iinc 3 1, 3)) mq_119 ci_119 (List.mem_of_getElem? (i := 78) rfl)
theorem cd_119_148 : mt_cd 119 148 = some (.goto (-100)) := mt_cd_of (q := (148, .goto (-100), 3)) mq_119 ci_119 (List.mem_of_getElem? (i := 79) rfl)
theorem cd_119_151 : mt_cd 119 151 = some (.iconst 0) := mt_cd_of (q := (151, .iconst 0, 1)) mq_119 ci_119 (List.mem_of_getElem? (i := 80) rfl)
theorem cd_119_152 : mt_cd 119 152 = some (.ireturn) := mt_cd_of (q := (152, .ireturn, 1)) mq_119 ci_119 (List.mem_of_getElem? (i := 81) rfl)
theorem b_119_0 {d : Nat} {Q : (Option Value ⊕ Nat) → mi_H → Prop} (n sl : Nat) (f : Nat → mi_C) {l1 : Nat} {l2 : Nat} {o3 : Option Value} {o4 : Option Value} {fs5 : List Value} {fs9 : List Value} {fs13 : List Value} {x16 : Nat} {fs18 : List Value} {x21 : Int32} {fs23 : List Value} (h6 : f l1 = .inr (11, fs5)) (h7 : l1 < n) (h8 : 10 < fs5.length) (h10 : (va_up f l1 (.inr (11, fs5.set 10 (.int 0)))) l1 = .inr (11, fs9)) (h11 : l1 < n) (h12 : 11 < fs9.length) (h14 : (va_up (va_up f l1 (.inr (11, fs5.set 10 (.int 0)))) l1 (.inr (11, fs9.set 11 (.int 0)))) l1 = .inr (11, fs13)) (h15 : l1 < n) (h17 : fs13[0]? = some (.ref x16)) (h19 : (va_up (va_up f l1 (.inr (11, fs5.set 10 (.int 0)))) l1 (.inr (11, fs9.set 11 (.int 0)))) l2 = .inr (9, fs18)) (h20 : l2 < n) (h22 : fs18[0]? = some (.int x21)) (h24 : (va_up (va_up f l1 (.inr (11, fs5.set 10 (.int 0)))) l1 (.inr (11, fs9.set 11 (.int 0)))) x16 = .inr (2, fs23)) (h25 : x16 < n) (h26 : mi_W d 120 0 (mi_en 5 [.ref x16, .int x21]) [] (n, sl, (va_up (va_up f l1 (.inr (11, fs5.set 10 (.int 0)))) l1 (.inr (11, fs9.set 11 (.int 0))))) (mi_Kc d 119 18 [some (.ref l1), some (.ref l2), o3, o4] [] Q)) : mi_W (d + 1) 119 0 [some (.ref l1), some (.ref l2), o3, o4] [] (n, sl, f) Q := by
  refine w_aload_n cd_119_0 rfl ?_
  refine w_iconst (v := 0) cd_119_1 (by decide) ?_
  refine w_putfield (w := .int 0) cd_119_2 (show mt_f 11 64 = some (11, 10) by decide +kernel) h6 h7 ⟨h8, rfl, Or.inl (by decide)⟩ ?_
  refine w_aload_n cd_119_5 rfl ?_
  refine w_iconst (v := 0) cd_119_6 (by decide) ?_
  refine w_putfield (w := .int 0) cd_119_7 (show mt_f 11 68 = some (11, 11) by decide +kernel) h10 h11 ⟨h12, rfl, Or.inl (by decide)⟩ ?_
  refine w_aload_n cd_119_10 rfl ?_
  refine w_getfield cd_119_11 (show mt_f 11 41 = some (11, 0) by decide +kernel) h14 h15 h17 ?_
  refine w_aload_n cd_119_14 rfl ?_
  refine w_getfield cd_119_15 (show mt_f 11 71 = some (9, 0) by decide +kernel) h19 h20 h22 ?_
  exact w_invokevirtual cd_119_18 (show mt_m 11 74 = some (120, 0) by decide +kernel) (rest := []) rfl (as := [.ref x16, .int x21]) rfl h24 (Or.inl h25) ⟨Nat.le_of_ble_eq_true rfl, Nat.le_of_ble_eq_true rfl, Nat.le_of_ble_eq_true rfl⟩ h26
theorem b_119_21 {d : Nat} {Q : (Option Value ⊕ Nat) → mi_H → Prop} (n sl : Nat) (f : Nat → mi_C) {l1 : Nat} {l2 : Nat} {o3 : Option Value} {o4 : Option Value} {s5 : Int32} (h6 : s5 = (0 : Int32) → mi_W d 119 26 [some (.ref l1), some (.ref l2), o3, o4] [] (n, sl, f) Q) (h7 : ¬ (s5 = (0 : Int32)) → mi_W d 119 24 [some (.ref l1), some (.ref l2), o3, o4] [] (n, sl, f) Q) : mi_W d 119 21 [some (.ref l1), some (.ref l2), o3, o4] [.int s5] (n, sl, f) Q := by
  exact w_ifeq cd_119_21 (by decide) h6 h7
theorem b_119_24 {d : Nat} {Q : (Option Value ⊕ Nat) → mi_H → Prop} (n sl : Nat) (f : Nat → mi_C) {l1 : Nat} {l2 : Nat} {o3 : Option Value} {o4 : Option Value} (h5 : Q (.inl (some (.int 3))) (n, sl, f)) : mi_W d 119 24 [some (.ref l1), some (.ref l2), o3, o4] [] (n, sl, f) Q := by
  refine w_iconst (v := 3) cd_119_24 (by decide) ?_
  exact w_ireturn_i cd_119_25 (by decide +kernel) h5
theorem b_119_26 {d : Nat} {Q : (Option Value ⊕ Nat) → mi_H → Prop} (n sl : Nat) (f : Nat → mi_C) {l1 : Nat} {l2 : Nat} {o3 : Option Value} {o4 : Option Value} {fs5 : List Value} {x8 : Nat} (m10 i10 ka10 : Nat) (g10 : Nat → Option Nat) {x15 : Nat} {fs17 : List Value} (h6 : f l1 = .inr (11, fs5)) (h7 : l1 < n) (h9 : fs5[4]? = some (.ref x8)) (h11 : f x8 = .inl (ka10, m10, .inr (.inr (.inr (.inr g10))))) (h12 : x8 < n) (h13 : 4 ≤ ka10 ∧ ka10 < mt_na) (h14 : mi_ix 0 m10 i10) (h16 : g10 i10 = some x15) (h18 : f x15 = .inr (9, fs17)) (h19 : x15 < n) (h20 : mi_W d 71 0 (mi_en 2 [.ref x15, .ref l2]) [] (n, sl, f) (mi_Kc d 119 35 [some (.ref l1), some (.ref l2), some (.int 0), o4] [] Q)) : mi_W (d + 1) 119 26 [some (.ref l1), some (.ref l2), o3, o4] [] (n, sl, f) Q := by
  refine w_iconst (v := 0) cd_119_26 (by decide) ?_
  refine w_istore_n (ls' := [some (.ref l1), some (.ref l2), some (.int 0), o4]) cd_119_27 (Nat.le_of_ble_eq_true rfl) rfl ?_
  refine w_aload_n cd_119_28 rfl ?_
  refine w_getfield cd_119_29 (show mt_f 11 20 = some (11, 4) by decide +kernel) h6 h7 h9 ?_
  refine w_iload_n cd_119_32 rfl ?_
  refine w_aaload (w := .ref x15) cd_119_33 h11 h12 h13 h14 (by rw [h16]; rfl) ?_
  refine w_aload_n cd_119_34 rfl ?_
  exact w_invokevirtual cd_119_35 (show mt_m 11 80 = some (71, 0) by decide +kernel) (rest := []) rfl (as := [.ref x15, .ref l2]) rfl h18 (Or.inl h19) ⟨Nat.le_of_ble_eq_true rfl, Nat.le_of_ble_eq_true rfl, Nat.le_of_ble_eq_true rfl⟩ h20
theorem b_119_38 {d : Nat} {Q : (Option Value ⊕ Nat) → mi_H → Prop} (n sl : Nat) (f : Nat → mi_C) {l1 : Nat} {l2 : Nat} {l3 : Int32} {o4 : Option Value} {fs5 : List Value} {x8 : Nat} (m10 i10 : Nat) (g10 : Nat → Int32) (h6 : f l1 = .inr (11, fs5)) (h7 : l1 < n) (h9 : fs5[5]? = some (.ref x8)) (h11 : f x8 = .inl (0, m10, .inl g10)) (h12 : x8 < n) (h13 : mi_ix l3 m10 i10) (h14 : mi_W d 119 48 [some (.ref l1), some (.ref l2), some (.int l3), some (.int 0)] [] (n, sl, (va_up f x8 (.inl (0, m10, .inl (upd g10 i10 ((-3))))))) Q) : mi_W d 119 38 [some (.ref l1), some (.ref l2), some (.int l3), o4] [] (n, sl, f) Q := by
  refine w_aload_n cd_119_38 rfl ?_
  refine w_getfield cd_119_39 (show mt_f 11 24 = some (11, 5) by decide +kernel) h6 h7 h9 ?_
  refine w_iload_n cd_119_42 rfl ?_
  refine w_bipush (v := (-3)) cd_119_43 (by decide) ?_
  refine w_iastore cd_119_45 h11 h12 h13 ?_
  refine w_iconst (v := 0) cd_119_46 (by decide) ?_
  refine w_istore_n (ls' := [some (.ref l1), some (.ref l2), some (.int l3), some (.int 0)]) cd_119_47 (Nat.le_of_ble_eq_true rfl) rfl ?_
  exact h14
theorem b_119_48 {d : Nat} {Q : (Option Value ⊕ Nat) → mi_H → Prop} (n sl : Nat) (f : Nat → mi_C) {l1 : Nat} {l2 : Nat} {l3 : Int32} {l4 : Int32} (h5 : 20000 ≤ l4 → mi_W d 119 151 [some (.ref l1), some (.ref l2), some (.int l3), some (.int l4)] [] (n, sl, f) Q) (h6 : ¬ (20000 ≤ l4) → mi_W d 119 55 [some (.ref l1), some (.ref l2), some (.int l3), some (.int l4)] [] (n, sl, f) Q) : mi_W d 119 48 [some (.ref l1), some (.ref l2), some (.int l3), some (.int l4)] [] (n, sl, f) Q := by
  refine w_iload_n cd_119_48 rfl ?_
  refine w_sipush (v := 20000) cd_119_49 (by decide) ?_
  exact w_if_icmpge cd_119_52 (by decide) h5 h6
theorem b_119_55 {d : Nat} {Q : (Option Value ⊕ Nat) → mi_H → Prop} (n sl : Nat) (f : Nat → mi_C) {l1 : Nat} {l2 : Nat} {l3 : Int32} {l4 : Int32} (h5 : l3 < (0 : Int32) → mi_W d 119 151 [some (.ref l1), some (.ref l2), some (.int l3), some (.int l4)] [] (n, sl, f) Q) (h6 : ¬ (l3 < (0 : Int32)) → mi_W d 119 59 [some (.ref l1), some (.ref l2), some (.int l3), some (.int l4)] [] (n, sl, f) Q) : mi_W d 119 55 [some (.ref l1), some (.ref l2), some (.int l3), some (.int l4)] [] (n, sl, f) Q := by
  refine w_iload_n cd_119_55 rfl ?_
  exact w_iflt cd_119_56 (by decide) h5 h6
theorem b_119_59 {d : Nat} {Q : (Option Value ⊕ Nat) → mi_H → Prop} (n sl : Nat) (f : Nat → mi_C) {l1 : Nat} {l2 : Nat} {l3 : Int32} {l4 : Int32} (h5 : 104 ≤ (l3 + 1) → mi_W d 119 75 [some (.ref l1), some (.ref l2), some (.int l3), some (.int l4)] [] (n, sl, f) Q) (h6 : ¬ (104 ≤ (l3 + 1)) → mi_W d 119 67 [some (.ref l1), some (.ref l2), some (.int l3), some (.int l4)] [] (n, sl, f) Q) : mi_W d 119 59 [some (.ref l1), some (.ref l2), some (.int l3), some (.int l4)] [] (n, sl, f) Q := by
  refine w_iload_n cd_119_59 rfl ?_
  refine w_iconst (v := 1) cd_119_60 (by decide) ?_
  refine w_iadd cd_119_61 ?_
  refine w_bipush (v := 104) cd_119_62 (by decide) ?_
  exact w_if_icmpge cd_119_64 (by decide) h5 h6
theorem b_119_67 {d : Nat} {Q : (Option Value ⊕ Nat) → mi_H → Prop} (n sl : Nat) (f : Nat → mi_C) {l1 : Nat} {l2 : Nat} {l3 : Int32} {l4 : Int32} {fs5 : List Value} (h6 : f l1 = .inr (11, fs5)) (h7 : l1 < n) (h8 : mi_W d 122 0 (mi_en 4 [.ref l1, .int l3]) [] (n, sl, f) (mi_Kc d 119 69 [some (.ref l1), some (.ref l2), some (.int l3), some (.int l4)] [] Q)) : mi_W (d + 1) 119 67 [some (.ref l1), some (.ref l2), some (.int l3), some (.int l4)] [] (n, sl, f) Q := by
  refine w_aload_n cd_119_67 rfl ?_
  refine w_iload_n cd_119_68 rfl ?_
  exact w_invokevirtual cd_119_69 (show mt_m 11 84 = some (122, 0) by decide +kernel) (rest := []) rfl (as := [.ref l1, .int l3]) rfl h6 (Or.inl h7) ⟨Nat.le_of_ble_eq_true rfl, Nat.le_of_ble_eq_true rfl, Nat.le_of_ble_eq_true rfl⟩ h8
theorem b_119_72 {d : Nat} {Q : (Option Value ⊕ Nat) → mi_H → Prop} (n sl : Nat) (f : Nat → mi_C) {l1 : Nat} {l2 : Nat} {l3 : Int32} {l4 : Int32} {s5 : Int32} (h6 : ¬ s5 = (0 : Int32) → mi_W d 119 81 [some (.ref l1), some (.ref l2), some (.int l3), some (.int l4)] [] (n, sl, f) Q) (h7 : ¬ (¬ s5 = (0 : Int32)) → mi_W d 119 75 [some (.ref l1), some (.ref l2), some (.int l3), some (.int l4)] [] (n, sl, f) Q) : mi_W d 119 72 [some (.ref l1), some (.ref l2), some (.int l3), some (.int l4)] [.int s5] (n, sl, f) Q := by
  exact w_ifne cd_119_72 (by decide) h6 h7
theorem b_119_75 {d : Nat} {Q : (Option Value ⊕ Nat) → mi_H → Prop} (n sl : Nat) (f : Nat → mi_C) {l1 : Nat} {l2 : Nat} {l3 : Int32} {l4 : Int32} (h5 : mi_W d 119 145 [some (.ref l1), some (.ref l2), some (.int (l3 + (-1))), some (.int l4)] [] (n, sl, f) Q) : mi_W d 119 75 [some (.ref l1), some (.ref l2), some (.int l3), some (.int l4)] [] (n, sl, f) Q := by
  refine w_iinc (v := (-1)) (ls' := [some (.ref l1), some (.ref l2), some (.int (l3 + (-1))), some (.int l4)]) cd_119_75 rfl (by decide) rfl ?_
  exact w_goto cd_119_78 (by decide) h5
theorem b_119_81 {d : Nat} {Q : (Option Value ⊕ Nat) → mi_H → Prop} (n sl : Nat) (f : Nat → mi_C) {l1 : Nat} {l2 : Nat} {l3 : Int32} {l4 : Int32} {fs5 : List Value} {x8 : Int32} {fs10 : List Value} {fs14 : List Value} {x17 : Int32} (h6 : f l1 = .inr (11, fs5)) (h7 : l1 < n) (h9 : fs5[10]? = some (.int x8)) (h11 : f l1 = .inr (11, fs10)) (h12 : l1 < n) (h13 : 10 < fs10.length) (h15 : (va_up f l1 (.inr (11, fs10.set 10 (.int (x8 + 1))))) l1 = .inr (11, fs14)) (h16 : l1 < n) (h18 : fs14[10]? = some (.int x17)) (h19 : x17 ≤ 5000 → mi_W d 119 103 [some (.ref l1), some (.ref l2), some (.int l3), some (.int l4)] [] (n, sl, (va_up f l1 (.inr (11, fs10.set 10 (.int (x8 + 1)))))) Q) (h20 : ¬ (x17 ≤ 5000) → mi_W d 119 101 [some (.ref l1), some (.ref l2), some (.int l3), some (.int l4)] [] (n, sl, (va_up f l1 (.inr (11, fs10.set 10 (.int (x8 + 1)))))) Q) : mi_W d 119 81 [some (.ref l1), some (.ref l2), some (.int l3), some (.int l4)] [] (n, sl, f) Q := by
  refine w_aload_n cd_119_81 rfl ?_
  refine w_dup_r cd_119_82 ?_
  refine w_getfield cd_119_83 (show mt_f 11 64 = some (11, 10) by decide +kernel) h6 h7 h9 ?_
  refine w_iconst (v := 1) cd_119_86 (by decide) ?_
  refine w_iadd cd_119_87 ?_
  refine w_putfield (w := .int (x8 + 1)) cd_119_88 (show mt_f 11 64 = some (11, 10) by decide +kernel) h11 h12 ⟨h13, rfl, Or.inl (by decide)⟩ ?_
  refine w_aload_n cd_119_91 rfl ?_
  refine w_getfield cd_119_92 (show mt_f 11 64 = some (11, 10) by decide +kernel) h15 h16 h18 ?_
  refine w_sipush (v := 5000) cd_119_95 (by decide) ?_
  exact w_if_icmple cd_119_98 (by decide) h19 h20
theorem b_119_101 {d : Nat} {Q : (Option Value ⊕ Nat) → mi_H → Prop} (n sl : Nat) (f : Nat → mi_C) {l1 : Nat} {l2 : Nat} {l3 : Int32} {l4 : Int32} (h5 : Q (.inl (some (.int 2))) (n, sl, f)) : mi_W d 119 101 [some (.ref l1), some (.ref l2), some (.int l3), some (.int l4)] [] (n, sl, f) Q := by
  refine w_iconst (v := 2) cd_119_101 (by decide) ?_
  exact w_ireturn_i cd_119_102 (by decide +kernel) h5
theorem b_119_103 {d : Nat} {Q : (Option Value ⊕ Nat) → mi_H → Prop} (n sl : Nat) (f : Nat → mi_C) {l1 : Nat} {l2 : Nat} {l3 : Int32} {l4 : Int32} {fs5 : List Value} (h6 : f l1 = .inr (11, fs5)) (h7 : l1 < n) (h8 : mi_W d 127 0 (mi_en 6 [.ref l1, .int l3]) [] (n, sl, f) (mi_Kc d 119 105 [some (.ref l1), some (.ref l2), some (.int l3), some (.int l4)] [] Q)) : mi_W (d + 1) 119 103 [some (.ref l1), some (.ref l2), some (.int l3), some (.int l4)] [] (n, sl, f) Q := by
  refine w_aload_n cd_119_103 rfl ?_
  refine w_iload_n cd_119_104 rfl ?_
  exact w_invokevirtual cd_119_105 (show mt_m 11 87 = some (127, 0) by decide +kernel) (rest := []) rfl (as := [.ref l1, .int l3]) rfl h6 (Or.inl h7) ⟨Nat.le_of_ble_eq_true rfl, Nat.le_of_ble_eq_true rfl, Nat.le_of_ble_eq_true rfl⟩ h8
theorem b_119_108 {d : Nat} {Q : (Option Value ⊕ Nat) → mi_H → Prop} (n sl : Nat) (f : Nat → mi_C) {l1 : Nat} {l2 : Nat} {l3 : Int32} {l4 : Int32} {s5 : Int32} (h6 : ¬ s5 = (0 : Int32) → mi_W d 119 114 [some (.ref l1), some (.ref l2), some (.int l3), some (.int l4)] [] (n, sl, f) Q) (h7 : ¬ (¬ s5 = (0 : Int32)) → mi_W d 119 111 [some (.ref l1), some (.ref l2), some (.int l3), some (.int l4)] [] (n, sl, f) Q) : mi_W d 119 108 [some (.ref l1), some (.ref l2), some (.int l3), some (.int l4)] [.int s5] (n, sl, f) Q := by
  exact w_ifne cd_119_108 (by decide) h6 h7
theorem b_119_111 {d : Nat} {Q : (Option Value ⊕ Nat) → mi_H → Prop} (n sl : Nat) (f : Nat → mi_C) {l1 : Nat} {l2 : Nat} {l3 : Int32} {l4 : Int32} (h5 : mi_W d 119 145 [some (.ref l1), some (.ref l2), some (.int l3), some (.int l4)] [] (n, sl, f) Q) : mi_W d 119 111 [some (.ref l1), some (.ref l2), some (.int l3), some (.int l4)] [] (n, sl, f) Q := by
  exact w_goto cd_119_111 (by decide) h5
theorem b_119_114 {d : Nat} {Q : (Option Value ⊕ Nat) → mi_H → Prop} (n sl : Nat) (f : Nat → mi_C) {l1 : Nat} {l2 : Nat} {l3 : Int32} {l4 : Int32} {fs5 : List Value} {x8 : Nat} {fs10 : List Value} {x13 : Nat} {fs15 : List Value} {x18 : Int32} (h6 : f l1 = .inr (11, fs5)) (h7 : l1 < n) (h9 : fs5[1]? = some (.ref x8)) (h11 : f x8 = .inr (7, fs10)) (h12 : x8 < n) (h14 : fs10[7]? = some (.ref x13)) (h16 : f x13 = .inr (8, fs15)) (h17 : x13 < n) (h19 : fs15[6]? = some (.int x18)) (h20 : x18 ≤ (0 : Int32) → mi_W d 119 137 [some (.ref l1), some (.ref l2), some (.int (l3 + 1)), some (.int l4)] [] (n, sl, f) Q) (h21 : ¬ (x18 ≤ (0 : Int32)) → mi_W d 119 130 [some (.ref l1), some (.ref l2), some (.int (l3 + 1)), some (.int l4)] [] (n, sl, f) Q) : mi_W d 119 114 [some (.ref l1), some (.ref l2), some (.int l3), some (.int l4)] [] (n, sl, f) Q := by
  refine w_iinc (v := 1) (ls' := [some (.ref l1), some (.ref l2), some (.int (l3 + 1)), some (.int l4)]) cd_119_114 rfl (by decide) rfl ?_
  refine w_aload_n cd_119_117 rfl ?_
  refine w_getfield cd_119_118 (show mt_f 11 50 = some (11, 1) by decide +kernel) h6 h7 h9 ?_
  refine w_getfield cd_119_121 (show mt_f 11 90 = some (7, 7) by decide +kernel) h11 h12 h14 ?_
  refine w_getfield cd_119_124 (show mt_f 11 94 = some (8, 6) by decide +kernel) h16 h17 h19 ?_
  exact w_ifle cd_119_127 (by decide) h20 h21
theorem b_119_130 {d : Nat} {Q : (Option Value ⊕ Nat) → mi_H → Prop} (n sl : Nat) (f : Nat → mi_C) {l1 : Nat} {l2 : Nat} {l3 : Int32} {l4 : Int32} {fs5 : List Value} (h6 : f l1 = .inr (11, fs5)) (h7 : l1 < n) (h8 : 11 < fs5.length) (h9 : Q (.inl (some (.int 1))) (n, sl, (va_up f l1 (.inr (11, fs5.set 11 (.int l3)))))) : mi_W d 119 130 [some (.ref l1), some (.ref l2), some (.int l3), some (.int l4)] [] (n, sl, f) Q := by
  refine w_aload_n cd_119_130 rfl ?_
  refine w_iload_n cd_119_131 rfl ?_
  refine w_putfield (w := .int l3) cd_119_132 (show mt_f 11 68 = some (11, 11) by decide +kernel) h6 h7 ⟨h8, rfl, Or.inl (by decide)⟩ ?_
  refine w_iconst (v := 1) cd_119_135 (by decide) ?_
  exact w_ireturn_i cd_119_136 (by decide +kernel) h9
theorem b_119_137 {d : Nat} {Q : (Option Value ⊕ Nat) → mi_H → Prop} (n sl : Nat) (f : Nat → mi_C) {l1 : Nat} {l2 : Nat} {l3 : Int32} {l4 : Int32} {fs5 : List Value} {x8 : Nat} (m10 i10 : Nat) (g10 : Nat → Int32) (h6 : f l1 = .inr (11, fs5)) (h7 : l1 < n) (h9 : fs5[5]? = some (.ref x8)) (h11 : f x8 = .inl (0, m10, .inl g10)) (h12 : x8 < n) (h13 : mi_ix l3 m10 i10) (h14 : mi_W d 119 145 [some (.ref l1), some (.ref l2), some (.int l3), some (.int l4)] [] (n, sl, (va_up f x8 (.inl (0, m10, .inl (upd g10 i10 ((-3))))))) Q) : mi_W d 119 137 [some (.ref l1), some (.ref l2), some (.int l3), some (.int l4)] [] (n, sl, f) Q := by
  refine w_aload_n cd_119_137 rfl ?_
  refine w_getfield cd_119_138 (show mt_f 11 24 = some (11, 5) by decide +kernel) h6 h7 h9 ?_
  refine w_iload_n cd_119_141 rfl ?_
  refine w_bipush (v := (-3)) cd_119_142 (by decide) ?_
  refine w_iastore cd_119_144 h11 h12 h13 ?_
  exact h14
theorem b_119_145 {d : Nat} {Q : (Option Value ⊕ Nat) → mi_H → Prop} (n sl : Nat) (f : Nat → mi_C) {l1 : Nat} {l2 : Nat} {l3 : Int32} {l4 : Int32} (h5 : mi_W d 119 48 [some (.ref l1), some (.ref l2), some (.int l3), some (.int (l4 + 1))] [] (n, sl, f) Q) : mi_W d 119 145 [some (.ref l1), some (.ref l2), some (.int l3), some (.int l4)] [] (n, sl, f) Q := by
  refine w_iinc (v := 1) (ls' := [some (.ref l1), some (.ref l2), some (.int l3), some (.int (l4 + 1))]) cd_119_145 rfl (by decide) rfl ?_
  exact w_goto cd_119_148 (by decide) h5
theorem b_119_151 {d : Nat} {Q : (Option Value ⊕ Nat) → mi_H → Prop} (n sl : Nat) (f : Nat → mi_C) {l1 : Nat} {l2 : Nat} {l3 : Int32} {l4 : Int32} (h5 : Q (.inl (some (.int 0))) (n, sl, f)) : mi_W d 119 151 [some (.ref l1), some (.ref l2), some (.int l3), some (.int l4)] [] (n, sl, f) Q := by
  refine w_iconst (v := 0) cd_119_151 (by decide) ?_
  exact w_ireturn_i cd_119_152 (by decide +kernel) h5
/-! MarloweHost$Tree.isOutside(I)Z -/
set_option maxRecDepth 100000 in
theorem mq_120 : mt_q 120 = my_120 := rfl
set_option maxRecDepth 100000 in
theorem ci_120 : mt_inc 0 my_120.cd = true := by decide +kernel
theorem cd_120_0 : mt_cd 120 0 = some (.aload_n 0) := mt_cd_of (q := (0, .aload_n 0, 1)) mq_120 ci_120 (List.mem_of_getElem? (i := 0) rfl)
theorem cd_120_1 : mt_cd 120 1 = some (.iload_n 1) := mt_cd_of (q := (1, .iload_n 1, 1)) mq_120 ci_120 (List.mem_of_getElem? (i := 1) rfl)
theorem cd_120_2 : mt_cd 120 2 = some (.invokevirtual 60) := mt_cd_of (q := (2, .invokevirtual 60, 3)) mq_120 ci_120 (List.mem_of_getElem? (i := 2) rfl)
theorem cd_120_5 : mt_cd 120 5 = some (.ifCond .eq 12) := mt_cd_of (q := (5, .ifCond .eq 12, 3)) mq_120 ci_120 (List.mem_of_getElem? (i := 3) rfl)
theorem cd_120_8 : mt_cd 120 8 = some (.aload_n 0) := mt_cd_of (q := (8, .aload_n 0, 1)) mq_120 ci_120 (List.mem_of_getElem? (i := 4) rfl)
theorem cd_120_9 : mt_cd 120 9 = some (.getfield 33) := mt_cd_of (q := (9, .getfield 33, 3)) mq_120 ci_120 (List.mem_of_getElem? (i := 5) rfl)
theorem cd_120_12 : mt_cd 120 12 = some (.iload_n 1) := mt_cd_of (q := (12, .iload_n 1, 1)) mq_120 ci_120 (List.mem_of_getElem? (i := 6) rfl)
theorem cd_120_13 : mt_cd 120 13 = some (.iaload) := mt_cd_of (q := (13, .iaload, 1)) mq_120 ci_120 (List.mem_of_getElem? (i := 7) rfl)
theorem cd_120_14 : mt_cd 120 14 = some (.goto 4) := mt_cd_of (q := (14, .goto 4, 3)) mq_120 ci_120 (List.mem_of_getElem? (i := 8) rfl)
theorem cd_120_17 : mt_cd 120 17 = some (.iconst 0) := mt_cd_of (q := (17, .iconst 0, 1)) mq_120 ci_120 (List.mem_of_getElem? (i := 9) rfl)
theorem cd_120_18 : mt_cd 120 18 = some (.istore_n 2) := mt_cd_of (q := (18, .istore_n 2, 1)) mq_120 ci_120 (List.mem_of_getElem? (i := 10) rfl)
theorem cd_120_19 : mt_cd 120 19 = some (.iload_n 1) := mt_cd_of (q := (19, .iload_n 1, 1)) mq_120 ci_120 (List.mem_of_getElem? (i := 11) rfl)
theorem cd_120_20 : mt_cd 120 20 = some (.istore_n 3) := mt_cd_of (q := (20, .istore_n 3, 1)) mq_120 ci_120 (List.mem_of_getElem? (i := 12) rfl)
theorem cd_120_21 : mt_cd 120 21 = some (.iload_n 3) := mt_cd_of (q := (21, .iload_n 3, 1)) mq_120 ci_120 (List.mem_of_getElem? (i := 13) rfl)
theorem cd_120_22 : mt_cd 120 22 = some (.ifCond .lt 57) := mt_cd_of (q := (22, .ifCond .lt 57, 3)) mq_120 ci_120 (List.mem_of_getElem? (i := 14) rfl)
theorem cd_120_25 : mt_cd 120 25 = some (.iload_n 3) := mt_cd_of (q := (25, .iload_n 3, 1)) mq_120 ci_120 (List.mem_of_getElem? (i := 15) rfl)
theorem cd_120_26 : mt_cd 120 26 = some (.iload_n 2) := mt_cd_of (q := (26, .iload_n 2, 1)) mq_120 ci_120 (List.mem_of_getElem? (i := 16) rfl)
theorem cd_120_27 : mt_cd 120 27 = some (.if_icmp .ge 52) := mt_cd_of (q := (27, .if_icmp .ge 52, 3)) mq_120 ci_120 (List.mem_of_getElem? (i := 17) rfl)
theorem cd_120_30 : mt_cd 120 30 = some (.aload_n 0) := mt_cd_of (q := (30, .aload_n 0, 1)) mq_120 ci_120 (List.mem_of_getElem? (i := 18) rfl)
theorem cd_120_31 : mt_cd 120 31 = some (.getfield 9) := mt_cd_of (q := (31, .getfield 9, 3)) mq_120 ci_120 (List.mem_of_getElem? (i := 19) rfl)
theorem cd_120_34 : mt_cd 120 34 = some (.iload_n 3) := mt_cd_of (q := (34, .iload_n 3, 1)) mq_120 ci_120 (List.mem_of_getElem? (i := 20) rfl)
theorem cd_120_35 : mt_cd 120 35 = some (.iaload) := mt_cd_of (q := (35, .iaload, 1)) mq_120 ci_120 (List.mem_of_getElem? (i := 21) rfl)
theorem cd_120_36 : mt_cd 120 36 = some (.istore 4) := mt_cd_of (q := (36, .istore 4, 2)) mq_120 ci_120 (List.mem_of_getElem? (i := 22) rfl)
theorem cd_120_38 : mt_cd 120 38 = some (.iload 4) := mt_cd_of (q := (38, .iload 4, 2)) mq_120 ci_120 (List.mem_of_getElem? (i := 23) rfl)
theorem cd_120_40 : mt_cd 120 40 = some (.bipush 15) := mt_cd_of (q := (40, .bipush 15, 2)) mq_120 ci_120 (List.mem_of_getElem? (i := 24) rfl)
theorem cd_120_42 : mt_cd 120 42 = some (.if_icmp .eq 10) := mt_cd_of (q := (42, .if_icmp .eq 10, 3)) mq_120 ci_120 (List.mem_of_getElem? (i := 25) rfl)
theorem cd_120_45 : mt_cd 120 45 = some (.iload 4) := mt_cd_of (q := (45, .iload 4, 2)) mq_120 ci_120 (List.mem_of_getElem? (i := 26) rfl)
theorem cd_120_47 : mt_cd 120 47 = some (.bipush 16) := mt_cd_of (q := (47, .bipush 16, 2)) mq_120 ci_120 (List.mem_of_getElem? (i := 27) rfl)
theorem cd_120_49 : mt_cd 120 49 = some (.if_icmp .ne 5) := mt_cd_of (q := (49, .if_icmp .ne 5, 3)) mq_120 ci_120 (List.mem_of_getElem? (i := 28) rfl)
theorem cd_120_52 : mt_cd 120 52 = some (.iconst 1) := mt_cd_of (q := (52, .iconst 1, 1)) mq_120 ci_120 (List.mem_of_getElem? (i := 29) rfl)
theorem cd_120_53 : mt_cd 120 53 = some (.ireturn) := mt_cd_of (q := (53, .ireturn, 1)) mq_120 ci_120 (List.mem_of_getElem? (i := 30) rfl)
theorem cd_120_54 : mt_cd 120 54 = some (.iload 4) := mt_cd_of (q := (54, .iload 4, 2)) mq_120 ci_120 (List.mem_of_getElem? (i := 31) rfl)
theorem cd_120_56 : mt_cd 120 56 = some (.bipush 9) := mt_cd_of (q := (56, .bipush 9, 2)) mq_120 ci_120 (List.mem_of_getElem? (i := 32) rfl)
theorem cd_120_58 : mt_cd 120 58 = some (.if_icmp .ne 15) := mt_cd_of (q := (58, .if_icmp .ne 15, 3)) mq_120 ci_120 (List.mem_of_getElem? (i := 33) rfl)
theorem cd_120_61 : mt_cd 120 61 = some (.aload_n 0) := mt_cd_of (q := (61, .aload_n 0, 1)) mq_120 ci_120 (List.mem_of_getElem? (i := 34) rfl)
theorem cd_120_62 : mt_cd 120 62 = some (.iload_n 3) := mt_cd_of (q := (62, .iload_n 3, 1)) mq_120 ci_120 (List.mem_of_getElem? (i := 35) rfl)
theorem cd_120_63 : mt_cd 120 63 = some (.invokevirtual 66) := mt_cd_of (q := (63, .invokevirtual 66, 3)) mq_120 ci_120 (List.mem_of_getElem? (i := 36) rfl)
theorem cd_120_66 : mt_cd 120 66 = some (.bipush 16) := mt_cd_of (q := (66, .bipush 16, 2)) mq_120 ci_120 (List.mem_of_getElem? (i := 37) rfl)
theorem cd_120_68 : mt_cd 120 68 = some (.if_icmp .le 5) := mt_cd_of (q := (68, .if_icmp .le 5, 3)) mq_120 ci_120 (List.mem_of_getElem? (i := 38) rfl)
theorem cd_120_71 : mt_cd 120 71 = some (.iconst 1) := mt_cd_of (q := (71, .iconst 1, 1)) mq_120 ci_120 (List.mem_of_getElem? (i := 39) rfl)
theorem cd_120_72 : mt_cd 120 72 = some (.ireturn) := mt_cd_of (q := (72, .ireturn, 1)) mq_120 ci_120 (List.mem_of_getElem? (i := 40) rfl)
theorem cd_120_73 : mt_cd 120 73 = some (.iinc 3 1) := mt_cd_of (q := (73, .iinc 3 1, 3)) mq_120 ci_120 (List.mem_of_getElem? (i := 41) rfl)
theorem cd_120_76 : mt_cd 120 76 = some (.goto (-55)) := mt_cd_of (q := (76, .goto (-55), 3)) mq_120 ci_120 (List.mem_of_getElem? (i := 42) rfl)
theorem cd_120_79 : mt_cd 120 79 = some (.iconst 0) := mt_cd_of (q := (79, .iconst 0, 1)) mq_120 ci_120 (List.mem_of_getElem? (i := 43) rfl)
theorem cd_120_80 : mt_cd 120 80 = some (.ireturn) := mt_cd_of (q := (80, .ireturn, 1)) mq_120 ci_120 (List.mem_of_getElem? (i := 44) rfl)
theorem b_120_0 {d : Nat} {Q : (Option Value ⊕ Nat) → mi_H → Prop} (n sl : Nat) (f : Nat → mi_C) {l1 : Nat} {l2 : Int32} {o3 : Option Value} {o4 : Option Value} {o5 : Option Value} {fs6 : List Value} (h7 : f l1 = .inr (2, fs6)) (h8 : l1 < n) (h9 : mi_W d 80 0 (mi_en 2 [.ref l1, .int l2]) [] (n, sl, f) (mi_Kc d 120 2 [some (.ref l1), some (.int l2), o3, o4, o5] [] Q)) : mi_W (d + 1) 120 0 [some (.ref l1), some (.int l2), o3, o4, o5] [] (n, sl, f) Q := by
  refine w_aload_n cd_120_0 rfl ?_
  refine w_iload_n cd_120_1 rfl ?_
  exact w_invokevirtual cd_120_2 (show mt_m 2 60 = some (80, 0) by decide +kernel) (rest := []) rfl (as := [.ref l1, .int l2]) rfl h7 (Or.inl h8) ⟨Nat.le_of_ble_eq_true rfl, Nat.le_of_ble_eq_true rfl, Nat.le_of_ble_eq_true rfl⟩ h9
theorem b_120_5 {d : Nat} {Q : (Option Value ⊕ Nat) → mi_H → Prop} (n sl : Nat) (f : Nat → mi_C) {l1 : Nat} {l2 : Int32} {o3 : Option Value} {o4 : Option Value} {o5 : Option Value} {s6 : Int32} (h7 : s6 = (0 : Int32) → mi_W d 120 17 [some (.ref l1), some (.int l2), o3, o4, o5] [] (n, sl, f) Q) (h8 : ¬ (s6 = (0 : Int32)) → mi_W d 120 8 [some (.ref l1), some (.int l2), o3, o4, o5] [] (n, sl, f) Q) : mi_W d 120 5 [some (.ref l1), some (.int l2), o3, o4, o5] [.int s6] (n, sl, f) Q := by
  exact w_ifeq cd_120_5 (by decide) h7 h8
theorem b_120_8 {d : Nat} {Q : (Option Value ⊕ Nat) → mi_H → Prop} (n sl : Nat) (f : Nat → mi_C) {l1 : Nat} {l2 : Int32} {o3 : Option Value} {o4 : Option Value} {o5 : Option Value} {fs6 : List Value} {x9 : Nat} (m11 i11 : Nat) (g11 : Nat → Int32) (h7 : f l1 = .inr (2, fs6)) (h8 : l1 < n) (h10 : fs6[7]? = some (.ref x9)) (h12 : f x9 = .inl (0, m11, .inl g11)) (h13 : x9 < n ∨ x9 = mi_SC) (h14 : mi_ix l2 m11 i11) (h15 : mi_W d 120 18 [some (.ref l1), some (.int l2), o3, o4, o5] [.int (g11 i11)] (n, sl, f) Q) : mi_W d 120 8 [some (.ref l1), some (.int l2), o3, o4, o5] [] (n, sl, f) Q := by
  refine w_aload_n cd_120_8 rfl ?_
  refine w_getfield cd_120_9 (show mt_f 2 33 = some (2, 7) by decide +kernel) h7 h8 h10 ?_
  refine w_iload_n cd_120_12 rfl ?_
  refine w_iaload cd_120_13 h12 h13 h14 ?_
  exact w_goto cd_120_14 (by decide) h15
theorem b_120_17 {d : Nat} {Q : (Option Value ⊕ Nat) → mi_H → Prop} (n sl : Nat) (f : Nat → mi_C) {l1 : Nat} {l2 : Int32} {o3 : Option Value} {o4 : Option Value} {o5 : Option Value} (h6 : mi_W d 120 18 [some (.ref l1), some (.int l2), o3, o4, o5] [.int 0] (n, sl, f) Q) : mi_W d 120 17 [some (.ref l1), some (.int l2), o3, o4, o5] [] (n, sl, f) Q := by
  refine w_iconst (v := 0) cd_120_17 (by decide) ?_
  exact h6
theorem b_120_18 {d : Nat} {Q : (Option Value ⊕ Nat) → mi_H → Prop} (n sl : Nat) (f : Nat → mi_C) {l1 : Nat} {l2 : Int32} {o3 : Option Value} {o4 : Option Value} {o5 : Option Value} {s6 : Int32} (h7 : mi_W d 120 21 [some (.ref l1), some (.int l2), some (.int s6), some (.int l2), o5] [] (n, sl, f) Q) : mi_W d 120 18 [some (.ref l1), some (.int l2), o3, o4, o5] [.int s6] (n, sl, f) Q := by
  refine w_istore_n (ls' := [some (.ref l1), some (.int l2), some (.int s6), o4, o5]) cd_120_18 (Nat.le_of_ble_eq_true rfl) rfl ?_
  refine w_iload_n cd_120_19 rfl ?_
  refine w_istore_n (ls' := [some (.ref l1), some (.int l2), some (.int s6), some (.int l2), o5]) cd_120_20 (Nat.le_of_ble_eq_true rfl) rfl ?_
  exact h7
theorem b_120_21 {d : Nat} {Q : (Option Value ⊕ Nat) → mi_H → Prop} (n sl : Nat) (f : Nat → mi_C) {l1 : Nat} {l2 : Int32} {l3 : Int32} {l4 : Int32} {o5 : Option Value} (h6 : l4 < (0 : Int32) → mi_W d 120 79 [some (.ref l1), some (.int l2), some (.int l3), some (.int l4), o5] [] (n, sl, f) Q) (h7 : ¬ (l4 < (0 : Int32)) → mi_W d 120 25 [some (.ref l1), some (.int l2), some (.int l3), some (.int l4), o5] [] (n, sl, f) Q) : mi_W d 120 21 [some (.ref l1), some (.int l2), some (.int l3), some (.int l4), o5] [] (n, sl, f) Q := by
  refine w_iload_n cd_120_21 rfl ?_
  exact w_iflt cd_120_22 (by decide) h6 h7
theorem b_120_25 {d : Nat} {Q : (Option Value ⊕ Nat) → mi_H → Prop} (n sl : Nat) (f : Nat → mi_C) {l1 : Nat} {l2 : Int32} {l3 : Int32} {l4 : Int32} {o5 : Option Value} (h6 : l3 ≤ l4 → mi_W d 120 79 [some (.ref l1), some (.int l2), some (.int l3), some (.int l4), o5] [] (n, sl, f) Q) (h7 : ¬ (l3 ≤ l4) → mi_W d 120 30 [some (.ref l1), some (.int l2), some (.int l3), some (.int l4), o5] [] (n, sl, f) Q) : mi_W d 120 25 [some (.ref l1), some (.int l2), some (.int l3), some (.int l4), o5] [] (n, sl, f) Q := by
  refine w_iload_n cd_120_25 rfl ?_
  refine w_iload_n cd_120_26 rfl ?_
  exact w_if_icmpge cd_120_27 (by decide) h6 h7
theorem b_120_30 {d : Nat} {Q : (Option Value ⊕ Nat) → mi_H → Prop} (n sl : Nat) (f : Nat → mi_C) {l1 : Nat} {l2 : Int32} {l3 : Int32} {l4 : Int32} {o5 : Option Value} {fs6 : List Value} {x9 : Nat} (m11 i11 : Nat) (g11 : Nat → Int32) (h7 : f l1 = .inr (2, fs6)) (h8 : l1 < n) (h10 : fs6[0]? = some (.ref x9)) (h12 : f x9 = .inl (0, m11, .inl g11)) (h13 : x9 < n ∨ x9 = mi_SC) (h14 : mi_ix l4 m11 i11) (h15 : (g11 i11) = 15 → mi_W d 120 52 [some (.ref l1), some (.int l2), some (.int l3), some (.int l4), some (.int (g11 i11))] [] (n, sl, f) Q) (h16 : ¬ ((g11 i11) = 15) → mi_W d 120 45 [some (.ref l1), some (.int l2), some (.int l3), some (.int l4), some (.int (g11 i11))] [] (n, sl, f) Q) : mi_W d 120 30 [some (.ref l1), some (.int l2), some (.int l3), some (.int l4), o5] [] (n, sl, f) Q := by
  refine w_aload_n cd_120_30 rfl ?_
  refine w_getfield cd_120_31 (show mt_f 2 9 = some (2, 0) by decide +kernel) h7 h8 h10 ?_
  refine w_iload_n cd_120_34 rfl ?_
  refine w_iaload cd_120_35 h12 h13 h14 ?_
  refine w_istore (ls' := [some (.ref l1), some (.int l2), some (.int l3), some (.int l4), some (.int (g11 i11))]) cd_120_36 (Nat.le_of_ble_eq_true rfl) rfl ?_
  refine w_iload cd_120_38 rfl ?_
  refine w_bipush (v := 15) cd_120_40 (by decide) ?_
  exact w_if_icmpeq cd_120_42 (by decide) h15 h16
theorem b_120_45 {d : Nat} {Q : (Option Value ⊕ Nat) → mi_H → Prop} (n sl : Nat) (f : Nat → mi_C) {l1 : Nat} {l2 : Int32} {l3 : Int32} {l4 : Int32} {l5 : Int32} (h6 : ¬ l5 = 16 → mi_W d 120 54 [some (.ref l1), some (.int l2), some (.int l3), some (.int l4), some (.int l5)] [] (n, sl, f) Q) (h7 : ¬ (¬ l5 = 16) → mi_W d 120 52 [some (.ref l1), some (.int l2), some (.int l3), some (.int l4), some (.int l5)] [] (n, sl, f) Q) : mi_W d 120 45 [some (.ref l1), some (.int l2), some (.int l3), some (.int l4), some (.int l5)] [] (n, sl, f) Q := by
  refine w_iload cd_120_45 rfl ?_
  refine w_bipush (v := 16) cd_120_47 (by decide) ?_
  exact w_if_icmpne cd_120_49 (by decide) h6 h7
theorem b_120_52 {d : Nat} {Q : (Option Value ⊕ Nat) → mi_H → Prop} (n sl : Nat) (f : Nat → mi_C) {l1 : Nat} {l2 : Int32} {l3 : Int32} {l4 : Int32} {l5 : Int32} (h6 : Q (.inl (some (.int 1))) (n, sl, f)) : mi_W d 120 52 [some (.ref l1), some (.int l2), some (.int l3), some (.int l4), some (.int l5)] [] (n, sl, f) Q := by
  refine w_iconst (v := 1) cd_120_52 (by decide) ?_
  exact w_ireturn_z cd_120_53 (by decide +kernel) (by decide) h6
theorem b_120_54 {d : Nat} {Q : (Option Value ⊕ Nat) → mi_H → Prop} (n sl : Nat) (f : Nat → mi_C) {l1 : Nat} {l2 : Int32} {l3 : Int32} {l4 : Int32} {l5 : Int32} (h6 : ¬ l5 = 9 → mi_W d 120 73 [some (.ref l1), some (.int l2), some (.int l3), some (.int l4), some (.int l5)] [] (n, sl, f) Q) (h7 : ¬ (¬ l5 = 9) → mi_W d 120 61 [some (.ref l1), some (.int l2), some (.int l3), some (.int l4), some (.int l5)] [] (n, sl, f) Q) : mi_W d 120 54 [some (.ref l1), some (.int l2), some (.int l3), some (.int l4), some (.int l5)] [] (n, sl, f) Q := by
  refine w_iload cd_120_54 rfl ?_
  refine w_bipush (v := 9) cd_120_56 (by decide) ?_
  exact w_if_icmpne cd_120_58 (by decide) h6 h7
theorem b_120_61 {d : Nat} {Q : (Option Value ⊕ Nat) → mi_H → Prop} (n sl : Nat) (f : Nat → mi_C) {l1 : Nat} {l2 : Int32} {l3 : Int32} {l4 : Int32} {l5 : Int32} {fs6 : List Value} (h7 : f l1 = .inr (2, fs6)) (h8 : l1 < n) (h9 : mi_W d 121 0 (mi_en 5 [.ref l1, .int l4]) [] (n, sl, f) (mi_Kc d 120 63 [some (.ref l1), some (.int l2), some (.int l3), some (.int l4), some (.int l5)] [] Q)) : mi_W (d + 1) 120 61 [some (.ref l1), some (.int l2), some (.int l3), some (.int l4), some (.int l5)] [] (n, sl, f) Q := by
  refine w_aload_n cd_120_61 rfl ?_
  refine w_iload_n cd_120_62 rfl ?_
  exact w_invokevirtual cd_120_63 (show mt_m 2 66 = some (121, 0) by decide +kernel) (rest := []) rfl (as := [.ref l1, .int l4]) rfl h7 (Or.inl h8) ⟨Nat.le_of_ble_eq_true rfl, Nat.le_of_ble_eq_true rfl, Nat.le_of_ble_eq_true rfl⟩ h9
theorem b_120_66 {d : Nat} {Q : (Option Value ⊕ Nat) → mi_H → Prop} (n sl : Nat) (f : Nat → mi_C) {l1 : Nat} {l2 : Int32} {l3 : Int32} {l4 : Int32} {l5 : Int32} {s6 : Int32} (h7 : s6 ≤ 16 → mi_W d 120 73 [some (.ref l1), some (.int l2), some (.int l3), some (.int l4), some (.int l5)] [] (n, sl, f) Q) (h8 : ¬ (s6 ≤ 16) → mi_W d 120 71 [some (.ref l1), some (.int l2), some (.int l3), some (.int l4), some (.int l5)] [] (n, sl, f) Q) : mi_W d 120 66 [some (.ref l1), some (.int l2), some (.int l3), some (.int l4), some (.int l5)] [.int s6] (n, sl, f) Q := by
  refine w_bipush (v := 16) cd_120_66 (by decide) ?_
  exact w_if_icmple cd_120_68 (by decide) h7 h8
theorem b_120_71 {d : Nat} {Q : (Option Value ⊕ Nat) → mi_H → Prop} (n sl : Nat) (f : Nat → mi_C) {l1 : Nat} {l2 : Int32} {l3 : Int32} {l4 : Int32} {l5 : Int32} (h6 : Q (.inl (some (.int 1))) (n, sl, f)) : mi_W d 120 71 [some (.ref l1), some (.int l2), some (.int l3), some (.int l4), some (.int l5)] [] (n, sl, f) Q := by
  refine w_iconst (v := 1) cd_120_71 (by decide) ?_
  exact w_ireturn_z cd_120_72 (by decide +kernel) (by decide) h6
theorem b_120_73 {d : Nat} {Q : (Option Value ⊕ Nat) → mi_H → Prop} (n sl : Nat) (f : Nat → mi_C) {l1 : Nat} {l2 : Int32} {l3 : Int32} {l4 : Int32} {l5 : Int32} (h6 : mi_W d 120 21 [some (.ref l1), some (.int l2), some (.int l3), some (.int (l4 + 1)), some (.int l5)] [] (n, sl, f) Q) : mi_W d 120 73 [some (.ref l1), some (.int l2), some (.int l3), some (.int l4), some (.int l5)] [] (n, sl, f) Q := by
  refine w_iinc (v := 1) (ls' := [some (.ref l1), some (.int l2), some (.int l3), some (.int (l4 + 1)), some (.int l5)]) cd_120_73 rfl (by decide) rfl ?_
  exact w_goto cd_120_76 (by decide) h6
theorem b_120_79 {d : Nat} {Q : (Option Value ⊕ Nat) → mi_H → Prop} (n sl : Nat) (f : Nat → mi_C) {l1 : Nat} {l2 : Int32} {l3 : Int32} {l4 : Int32} {o5 : Option Value} (h6 : Q (.inl (some (.int 0))) (n, sl, f)) : mi_W d 120 79 [some (.ref l1), some (.int l2), some (.int l3), some (.int l4), o5] [] (n, sl, f) Q := by
  refine w_iconst (v := 0) cd_120_79 (by decide) ?_
  exact w_ireturn_z cd_120_80 (by decide +kernel) (by decide) h6
/-! MarloweHost$Tree.numbersTried(I)I -/
set_option maxRecDepth 100000 in
theorem mq_121 : mt_q 121 = my_121 := rfl
set_option maxRecDepth 100000 in
theorem ci_121 : mt_inc 0 my_121.cd = true := by decide +kernel
theorem cd_121_0 : mt_cd 121 0 = some (.lconst 0) := mt_cd_of (q := (0, .lconst 0, 1)) mq_121 ci_121 (List.mem_of_getElem? (i := 0) rfl)
theorem cd_121_1 : mt_cd 121 1 = some (.lstore_n 2) := mt_cd_of (q := (1, .lstore_n 2, 1)) mq_121 ci_121 (List.mem_of_getElem? (i := 1) rfl)
theorem cd_121_2 : mt_cd 121 2 = some (.aload_n 0) := mt_cd_of (q := (2, .aload_n 0, 1)) mq_121 ci_121 (List.mem_of_getElem? (i := 2) rfl)
theorem cd_121_3 : mt_cd 121 3 = some (.getfield 27) := mt_cd_of (q := (3, .getfield 27, 3)) mq_121 ci_121 (List.mem_of_getElem? (i := 3) rfl)
theorem cd_121_6 : mt_cd 121 6 = some (.iload_n 1) := mt_cd_of (q := (6, .iload_n 1, 1)) mq_121 ci_121 (List.mem_of_getElem? (i := 4) rfl)
theorem cd_121_7 : mt_cd 121 7 = some (.iaload) := mt_cd_of (q := (7, .iaload, 1)) mq_121 ci_121 (List.mem_of_getElem? (i := 5) rfl)
theorem cd_121_8 : mt_cd 121 8 = some (.istore 4) := mt_cd_of (q := (8, .istore 4, 2)) mq_121 ci_121 (List.mem_of_getElem? (i := 6) rfl)
theorem cd_121_10 : mt_cd 121 10 = some (.iload 4) := mt_cd_of (q := (10, .iload 4, 2)) mq_121 ci_121 (List.mem_of_getElem? (i := 7) rfl)
theorem cd_121_12 : mt_cd 121 12 = some (.ifCond .lt 52) := mt_cd_of (q := (12, .ifCond .lt 52, 3)) mq_121 ci_121 (List.mem_of_getElem? (i := 8) rfl)
theorem cd_121_15 : mt_cd 121 15 = some (.iload 4) := mt_cd_of (q := (15, .iload 4, 2)) mq_121 ci_121 (List.mem_of_getElem? (i := 9) rfl)
theorem cd_121_17 : mt_cd 121 17 = some (.iconst 1) := mt_cd_of (q := (17, .iconst 1, 1)) mq_121 ci_121 (List.mem_of_getElem? (i := 10) rfl)
theorem cd_121_18 : mt_cd 121 18 = some (.iadd) := mt_cd_of (q := (18, .iadd, 1)) mq_121 ci_121 (List.mem_of_getElem? (i := 11) rfl)
theorem cd_121_19 : mt_cd 121 19 = some (.aload_n 0) := mt_cd_of (q := (19, .aload_n 0, 1)) mq_121 ci_121 (List.mem_of_getElem? (i := 12) rfl)
theorem cd_121_20 : mt_cd 121 20 = some (.getfield 30) := mt_cd_of (q := (20, .getfield 30, 3)) mq_121 ci_121 (List.mem_of_getElem? (i := 13) rfl)
theorem cd_121_23 : mt_cd 121 23 = some (.iload_n 1) := mt_cd_of (q := (23, .iload_n 1, 1)) mq_121 ci_121 (List.mem_of_getElem? (i := 14) rfl)
theorem cd_121_24 : mt_cd 121 24 = some (.iaload) := mt_cd_of (q := (24, .iaload, 1)) mq_121 ci_121 (List.mem_of_getElem? (i := 15) rfl)
theorem cd_121_25 : mt_cd 121 25 = some (.if_icmp .ge 39) := mt_cd_of (q := (25, .if_icmp .ge 39, 3)) mq_121 ci_121 (List.mem_of_getElem? (i := 16) rfl)
theorem cd_121_28 : mt_cd 121 28 = some (.lload_n 2) := mt_cd_of (q := (28, .lload_n 2, 1)) mq_121 ci_121 (List.mem_of_getElem? (i := 17) rfl)
theorem cd_121_29 : mt_cd 121 29 = some (.ldc2_w 64) := mt_cd_of (q := (29, .ldc2_w 64, 3)) mq_121 ci_121 (List.mem_of_getElem? (i := 18) rfl)
theorem cd_121_32 : mt_cd 121 32 = some (.lcmp) := mt_cd_of (q := (32, .lcmp, 1)) mq_121 ci_121 (List.mem_of_getElem? (i := 19) rfl)
theorem cd_121_33 : mt_cd 121 33 = some (.ifCond .gt 31) := mt_cd_of (q := (33, .ifCond .gt 31, 3)) mq_121 ci_121 (List.mem_of_getElem? (i := 20) rfl)
theorem cd_121_36 : mt_cd 121 36 = some (.lload_n 2) := mt_cd_of (q := (36, .lload_n 2, 1)) mq_121 ci_121 (List.mem_of_getElem? (i := 21) rfl)
theorem cd_121_37 : mt_cd 121 37 = some (.aload_n 0) := mt_cd_of (q := (37, .aload_n 0, 1)) mq_121 ci_121 (List.mem_of_getElem? (i := 22) rfl)
theorem cd_121_38 : mt_cd 121 38 = some (.getfield 44) := mt_cd_of (q := (38, .getfield 44, 3)) mq_121 ci_121 (List.mem_of_getElem? (i := 23) rfl)
theorem cd_121_41 : mt_cd 121 41 = some (.iload 4) := mt_cd_of (q := (41, .iload 4, 2)) mq_121 ci_121 (List.mem_of_getElem? (i := 24) rfl)
theorem cd_121_43 : mt_cd 121 43 = some (.iconst 1) := mt_cd_of (q := (43, .iconst 1, 1)) mq_121 ci_121 (List.mem_of_getElem? (i := 25) rfl)
theorem cd_121_44 : mt_cd 121 44 = some (.iadd) := mt_cd_of (q := (44, .iadd, 1)) mq_121 ci_121 (List.mem_of_getElem? (i := 26) rfl)
theorem cd_121_45 : mt_cd 121 45 = some (.laload) := mt_cd_of (q := (45, .laload, 1)) mq_121 ci_121 (List.mem_of_getElem? (i := 27) rfl)
theorem cd_121_46 : mt_cd 121 46 = some (.aload_n 0) := mt_cd_of (q := (46, .aload_n 0, 1)) mq_121 ci_121 (List.mem_of_getElem? (i := 28) rfl)
theorem cd_121_47 : mt_cd 121 47 = some (.getfield 44) := mt_cd_of (q := (47, .getfield 44, 3)) mq_121 ci_121 (List.mem_of_getElem? (i := 29) rfl)
theorem cd_121_50 : mt_cd 121 50 = some (.iload 4) := mt_cd_of (q := (50, .iload 4, 2)) mq_121 ci_121 (List.mem_of_getElem? (i := 30) rfl)
theorem cd_121_52 : mt_cd 121 52 = some (.laload) := mt_cd_of (q := (52, .laload, 1)) mq_121 ci_121 (List.mem_of_getElem? (i := 31) rfl)
theorem cd_121_53 : mt_cd 121 53 = some (.lsub) := mt_cd_of (q := (53, .lsub, 1)) mq_121 ci_121 (List.mem_of_getElem? (i := 32) rfl)
theorem cd_121_54 : mt_cd 121 54 = some (.lconst 1) := mt_cd_of (q := (54, .lconst 1, 1)) mq_121 ci_121 (List.mem_of_getElem? (i := 33) rfl)
theorem cd_121_55 : mt_cd 121 55 = some (.ladd) := mt_cd_of (q := (55, .ladd, 1)) mq_121 ci_121 (List.mem_of_getElem? (i := 34) rfl)
theorem cd_121_56 : mt_cd 121 56 = some (.ladd) := mt_cd_of (q := (56, .ladd, 1)) mq_121 ci_121 (List.mem_of_getElem? (i := 35) rfl)
theorem cd_121_57 : mt_cd 121 57 = some (.lstore_n 2) := mt_cd_of (q := (57, .lstore_n 2, 1)) mq_121 ci_121 (List.mem_of_getElem? (i := 36) rfl)
theorem cd_121_58 : mt_cd 121 58 = some (.iinc 4 2) := mt_cd_of (q := (58, .iinc 4 2, 3)) mq_121 ci_121 (List.mem_of_getElem? (i := 37) rfl)
theorem cd_121_61 : mt_cd 121 61 = some (.goto (-51)) := mt_cd_of (q := (61, .goto (-51), 3)) mq_121 ci_121 (List.mem_of_getElem? (i := 38) rfl)
theorem cd_121_64 : mt_cd 121 64 = some (.lload_n 2) := mt_cd_of (q := (64, .lload_n 2, 1)) mq_121 ci_121 (List.mem_of_getElem? (i := 39) rfl)
theorem cd_121_65 : mt_cd 121 65 = some (.ldc2_w 64) := mt_cd_of (q := (65, .ldc2_w 64, 3)) mq_121 ci_121 (List.mem_of_getElem? (i := 40) rfl)
theorem cd_121_68 : mt_cd 121 68 = some (.lcmp) := mt_cd_of (q := (68, .lcmp, 1)) mq_121 ci_121 (List.mem_of_getElem? (i := 41) rfl)
theorem cd_121_69 : mt_cd 121 69 = some (.ifCond .gt 8) := mt_cd_of (q := (69, .ifCond .gt 8, 3)) mq_121 ci_121 (List.mem_of_getElem? (i := 42) rfl)
theorem cd_121_72 : mt_cd 121 72 = some (.lload_n 2) := mt_cd_of (q := (72, .lload_n 2, 1)) mq_121 ci_121 (List.mem_of_getElem? (i := 43) rfl)
theorem cd_121_73 : mt_cd 121 73 = some (.l2i) := mt_cd_of (q := (73, .l2i, 1)) mq_121 ci_121 (List.mem_of_getElem? (i := 44) rfl)
theorem cd_121_74 : mt_cd 121 74 = some (.goto 5) := mt_cd_of (q := (74, .goto 5, 3)) mq_121 ci_121 (List.mem_of_getElem? (i := 45) rfl)
theorem cd_121_77 : mt_cd 121 77 = some (.bipush 17) := mt_cd_of (q := (77, .bipush 17, 2)) mq_121 ci_121 (List.mem_of_getElem? (i := 46) rfl)
theorem cd_121_79 : mt_cd 121 79 = some (.ireturn) := mt_cd_of (q := (79, .ireturn, 1)) mq_121 ci_121 (List.mem_of_getElem? (i := 47) rfl)
theorem b_121_0 {d : Nat} {Q : (Option Value ⊕ Nat) → mi_H → Prop} (n sl : Nat) (f : Nat → mi_C) {l1 : Nat} {l2 : Int32} {o3 : Option Value} {o4 : Option Value} {o5 : Option Value} {fs6 : List Value} {x9 : Nat} (m11 i11 : Nat) (g11 : Nat → Int32) (h7 : f l1 = .inr (2, fs6)) (h8 : l1 < n) (h10 : fs6[5]? = some (.ref x9)) (h12 : f x9 = .inl (0, m11, .inl g11)) (h13 : x9 < n ∨ x9 = mi_SC) (h14 : mi_ix l2 m11 i11) (h15 : mi_W d 121 10 [some (.ref l1), some (.int l2), some (.long 0), none, some (.int (g11 i11))] [] (n, sl, f) Q) : mi_W d 121 0 [some (.ref l1), some (.int l2), o3, o4, o5] [] (n, sl, f) Q := by
  refine w_lconst (lv := 0) cd_121_0 (by decide) ?_
  refine w_lstore_n (ls' := [some (.ref l1), some (.int l2), some (.long 0), none, o5]) cd_121_1 (Nat.le_of_ble_eq_true rfl) rfl ?_
  refine w_aload_n cd_121_2 rfl ?_
  refine w_getfield cd_121_3 (show mt_f 2 27 = some (2, 5) by decide +kernel) h7 h8 h10 ?_
  refine w_iload_n cd_121_6 rfl ?_
  refine w_iaload cd_121_7 h12 h13 h14 ?_
  refine w_istore (ls' := [some (.ref l1), some (.int l2), some (.long 0), none, some (.int (g11 i11))]) cd_121_8 (Nat.le_of_ble_eq_true rfl) rfl ?_
  exact h15
theorem b_121_10 {d : Nat} {Q : (Option Value ⊕ Nat) → mi_H → Prop} (n sl : Nat) (f : Nat → mi_C) {l1 : Nat} {l2 : Int32} {l3 : Int64} {l4 : Int32} (h5 : l4 < (0 : Int32) → mi_W d 121 64 [some (.ref l1), some (.int l2), some (.long l3), none, some (.int l4)] [] (n, sl, f) Q) (h6 : ¬ (l4 < (0 : Int32)) → mi_W d 121 15 [some (.ref l1), some (.int l2), some (.long l3), none, some (.int l4)] [] (n, sl, f) Q) : mi_W d 121 10 [some (.ref l1), some (.int l2), some (.long l3), none, some (.int l4)] [] (n, sl, f) Q := by
  refine w_iload cd_121_10 rfl ?_
  exact w_iflt cd_121_12 (by decide) h5 h6
theorem b_121_15 {d : Nat} {Q : (Option Value ⊕ Nat) → mi_H → Prop} (n sl : Nat) (f : Nat → mi_C) {l1 : Nat} {l2 : Int32} {l3 : Int64} {l4 : Int32} {fs5 : List Value} {x8 : Nat} (m10 i10 : Nat) (g10 : Nat → Int32) (h6 : f l1 = .inr (2, fs5)) (h7 : l1 < n) (h9 : fs5[6]? = some (.ref x8)) (h11 : f x8 = .inl (0, m10, .inl g10)) (h12 : x8 < n ∨ x8 = mi_SC) (h13 : mi_ix l2 m10 i10) (h14 : (g10 i10) ≤ (l4 + 1) → mi_W d 121 64 [some (.ref l1), some (.int l2), some (.long l3), none, some (.int l4)] [] (n, sl, f) Q) (h15 : ¬ ((g10 i10) ≤ (l4 + 1)) → mi_W d 121 28 [some (.ref l1), some (.int l2), some (.long l3), none, some (.int l4)] [] (n, sl, f) Q) : mi_W d 121 15 [some (.ref l1), some (.int l2), some (.long l3), none, some (.int l4)] [] (n, sl, f) Q := by
  refine w_iload cd_121_15 rfl ?_
  refine w_iconst (v := 1) cd_121_17 (by decide) ?_
  refine w_iadd cd_121_18 ?_
  refine w_aload_n cd_121_19 rfl ?_
  refine w_getfield cd_121_20 (show mt_f 2 30 = some (2, 6) by decide +kernel) h6 h7 h9 ?_
  refine w_iload_n cd_121_23 rfl ?_
  refine w_iaload cd_121_24 h11 h12 h13 ?_
  exact w_if_icmpge cd_121_25 (by decide) h14 h15
theorem b_121_28 {d : Nat} {Q : (Option Value ⊕ Nat) → mi_H → Prop} (n sl : Nat) (f : Nat → mi_C) {l1 : Nat} {l2 : Int32} {l3 : Int64} {l4 : Int32} (h5 : (0 : Int32) < (lg_cmp l3 16) → mi_W d 121 64 [some (.ref l1), some (.int l2), some (.long l3), none, some (.int l4)] [] (n, sl, f) Q) (h6 : ¬ ((0 : Int32) < (lg_cmp l3 16)) → mi_W d 121 36 [some (.ref l1), some (.int l2), some (.long l3), none, some (.int l4)] [] (n, sl, f) Q) : mi_W d 121 28 [some (.ref l1), some (.int l2), some (.long l3), none, some (.int l4)] [] (n, sl, f) Q := by
  refine w_lload_n cd_121_28 rfl ?_
  refine w_ldc2_w (lv := 16) cd_121_29 (by decide +kernel) ?_
  refine w_lcmp cd_121_32 ?_
  exact w_ifgt cd_121_33 (by decide) h5 h6
theorem b_121_36 {d : Nat} {Q : (Option Value ⊕ Nat) → mi_H → Prop} (n sl : Nat) (f : Nat → mi_C) {l1 : Nat} {l2 : Int32} {l3 : Int64} {l4 : Int32} {fs5 : List Value} {x8 : Nat} (m10 i10 : Nat) (g10 : Nat → Int64) {fs14 : List Value} {x17 : Nat} (m19 i19 : Nat) (g19 : Nat → Int64) (h6 : f l1 = .inr (2, fs5)) (h7 : l1 < n) (h9 : fs5[10]? = some (.ref x8)) (h11 : f x8 = .inl (3, m10, .inr (.inl g10))) (h12 : x8 < n) (h13 : mi_ix (l4 + 1) m10 i10) (h15 : f l1 = .inr (2, fs14)) (h16 : l1 < n) (h18 : fs14[10]? = some (.ref x17)) (h20 : f x17 = .inl (3, m19, .inr (.inl g19))) (h21 : x17 < n) (h22 : mi_ix l4 m19 i19) (h23 : mi_W d 121 10 [some (.ref l1), some (.int l2), some (.long (l3 + (((g10 i10) - (g19 i19)) + 1))), none, some (.int (l4 + 2))] [] (n, sl, f) Q) : mi_W d 121 36 [some (.ref l1), some (.int l2), some (.long l3), none, some (.int l4)] [] (n, sl, f) Q := by
  refine w_lload_n cd_121_36 rfl ?_
  refine w_aload_n cd_121_37 rfl ?_
  refine w_getfield cd_121_38 (show mt_f 2 44 = some (2, 10) by decide +kernel) h6 h7 h9 ?_
  refine w_iload cd_121_41 rfl ?_
  refine w_iconst (v := 1) cd_121_43 (by decide) ?_
  refine w_iadd cd_121_44 ?_
  refine w_laload cd_121_45 h11 h12 h13 ?_
  refine w_aload_n cd_121_46 rfl ?_
  refine w_getfield cd_121_47 (show mt_f 2 44 = some (2, 10) by decide +kernel) h15 h16 h18 ?_
  refine w_iload cd_121_50 rfl ?_
  refine w_laload cd_121_52 h20 h21 h22 ?_
  refine w_lsub cd_121_53 ?_
  refine w_lconst (lv := 1) cd_121_54 (by decide) ?_
  refine w_ladd cd_121_55 ?_
  refine w_ladd cd_121_56 ?_
  refine w_lstore_n (ls' := [some (.ref l1), some (.int l2), some (.long (l3 + (((g10 i10) - (g19 i19)) + 1))), none, some (.int l4)]) cd_121_57 (Nat.le_of_ble_eq_true rfl) rfl ?_
  refine w_iinc (v := 2) (ls' := [some (.ref l1), some (.int l2), some (.long (l3 + (((g10 i10) - (g19 i19)) + 1))), none, some (.int (l4 + 2))]) cd_121_58 rfl (by decide) rfl ?_
  exact w_goto cd_121_61 (by decide) h23
theorem b_121_64 {d : Nat} {Q : (Option Value ⊕ Nat) → mi_H → Prop} (n sl : Nat) (f : Nat → mi_C) {l1 : Nat} {l2 : Int32} {l3 : Int64} {l4 : Int32} (h5 : (0 : Int32) < (lg_cmp l3 16) → mi_W d 121 77 [some (.ref l1), some (.int l2), some (.long l3), none, some (.int l4)] [] (n, sl, f) Q) (h6 : ¬ ((0 : Int32) < (lg_cmp l3 16)) → mi_W d 121 72 [some (.ref l1), some (.int l2), some (.long l3), none, some (.int l4)] [] (n, sl, f) Q) : mi_W d 121 64 [some (.ref l1), some (.int l2), some (.long l3), none, some (.int l4)] [] (n, sl, f) Q := by
  refine w_lload_n cd_121_64 rfl ?_
  refine w_ldc2_w (lv := 16) cd_121_65 (by decide +kernel) ?_
  refine w_lcmp cd_121_68 ?_
  exact w_ifgt cd_121_69 (by decide) h5 h6
theorem b_121_72 {d : Nat} {Q : (Option Value ⊕ Nat) → mi_H → Prop} (n sl : Nat) (f : Nat → mi_C) {l1 : Nat} {l2 : Int32} {l3 : Int64} {l4 : Int32} (h5 : mi_W d 121 79 [some (.ref l1), some (.int l2), some (.long l3), none, some (.int l4)] [.int ((l3 : Int64).toInt32)] (n, sl, f) Q) : mi_W d 121 72 [some (.ref l1), some (.int l2), some (.long l3), none, some (.int l4)] [] (n, sl, f) Q := by
  refine w_lload_n cd_121_72 rfl ?_
  refine w_l2i cd_121_73 ?_
  exact w_goto cd_121_74 (by decide) h5
theorem b_121_77 {d : Nat} {Q : (Option Value ⊕ Nat) → mi_H → Prop} (n sl : Nat) (f : Nat → mi_C) {l1 : Nat} {l2 : Int32} {l3 : Int64} {l4 : Int32} (h5 : mi_W d 121 79 [some (.ref l1), some (.int l2), some (.long l3), none, some (.int l4)] [.int 17] (n, sl, f) Q) : mi_W d 121 77 [some (.ref l1), some (.int l2), some (.long l3), none, some (.int l4)] [] (n, sl, f) Q := by
  refine w_bipush (v := 17) cd_121_77 (by decide) ?_
  exact h5
theorem b_121_79 {d : Nat} {Q : (Option Value ⊕ Nat) → mi_H → Prop} (n sl : Nat) (f : Nat → mi_C) {l1 : Nat} {l2 : Int32} {l3 : Int64} {l4 : Int32} {s5 : Int32} (h6 : Q (.inl (some (.int s5))) (n, sl, f)) : mi_W d 121 79 [some (.ref l1), some (.int l2), some (.long l3), none, some (.int l4)] [.int s5] (n, sl, f) Q := by
  exact w_ireturn_i cd_121_79 (by decide +kernel) h6
/-! MarloweHost$Analyser.findStep(I)Z -/
set_option maxRecDepth 100000 in
theorem mq_122 : mt_q 122 = my_122 := rfl
set_option maxRecDepth 100000 in
theorem ci_122 : mt_inc 0 my_122.cd = true := by decide +kernel
theorem cd_122_0 : mt_cd 122 0 = some (.aload_n 0) := mt_cd_of (q := (0, .aload_n 0, 1)) mq_122 ci_122 (List.mem_append_left _ (show _ ∈ my_122_0 from List.mem_of_getElem? (i := 0) rfl))
theorem cd_122_1 : mt_cd 122 1 = some (.getfield 20) := mt_cd_of (q := (1, .getfield 20, 3)) mq_122 ci_122 (List.mem_append_left _ (show _ ∈ my_122_0 from List.mem_of_getElem? (i := 1) rfl))
theorem cd_122_4 : mt_cd 122 4 = some (.iload_n 1) := mt_cd_of (q := (4, .iload_n 1, 1)) mq_122 ci_122 (List.mem_append_left _ (show _ ∈ my_122_0 from List.mem_of_getElem? (i := 2) rfl))
theorem cd_122_5 : mt_cd 122 5 = some (.aaload) := mt_cd_of (q := (5, .aaload, 1)) mq_122 ci_122 (List.mem_append_left _ (show _ ∈ my_122_0 from List.mem_of_getElem? (i := 3) rfl))
theorem cd_122_6 : mt_cd 122 6 = some (.astore_n 2) := mt_cd_of (q := (6, .astore_n 2, 1)) mq_122 ci_122 (List.mem_append_left _ (show _ ∈ my_122_0 from List.mem_of_getElem? (i := 4) rfl))
theorem cd_122_7 : mt_cd 122 7 = some (.aload_n 0) := mt_cd_of (q := (7, .aload_n 0, 1)) mq_122 ci_122 (List.mem_append_left _ (show _ ∈ my_122_0 from List.mem_of_getElem? (i := 5) rfl))
theorem cd_122_8 : mt_cd 122 8 = some (.getfield 24) := mt_cd_of (q := (8, .getfield 24, 3)) mq_122 ci_122 (List.mem_append_left _ (show _ ∈ my_122_0 from List.mem_of_getElem? (i := 6) rfl))
theorem cd_122_11 : mt_cd 122 11 = some (.iload_n 1) := mt_cd_of (q := (11, .iload_n 1, 1)) mq_122 ci_122 (List.mem_append_left _ (show _ ∈ my_122_0 from List.mem_of_getElem? (i := 7) rfl))
theorem cd_122_12 : mt_cd 122 12 = some (.iaload) := mt_cd_of (q := (12, .iaload, 1)) mq_122 ci_122 (List.mem_append_left _ (show _ ∈ my_122_0 from List.mem_of_getElem? (i := 8) rfl))
theorem cd_122_13 : mt_cd 122 13 = some (.bipush (-3)) := mt_cd_of (q := (13, .bipush (-3), 2)) mq_122 ci_122 (List.mem_append_left _ (show _ ∈ my_122_0 from List.mem_of_getElem? (i := 9) rfl))
theorem cd_122_15 : mt_cd 122 15 = some (.if_icmp .ne 76) := mt_cd_of (q := (15, .if_icmp .ne 76, 3)) mq_122 ci_122 (List.mem_append_left _ (show _ ∈ my_122_0 from List.mem_of_getElem? (i := 10) rfl))
theorem cd_122_18 : mt_cd 122 18 = some (.aload_n 0) := mt_cd_of (q := (18, .aload_n 0, 1)) mq_122 ci_122 (List.mem_append_left _ (show _ ∈ my_122_0 from List.mem_of_getElem? (i := 11) rfl))
theorem cd_122_19 : mt_cd 122 19 = some (.getfield 50) := mt_cd_of (q := (19, .getfield 50, 3)) mq_122 ci_122 (List.mem_append_left _ (show _ ∈ my_122_0 from List.mem_of_getElem? (i := 12) rfl))
theorem cd_122_22 : mt_cd 122 22 = some (.aload_n 2) := mt_cd_of (q := (22, .aload_n 2, 1)) mq_122 ci_122 (List.mem_append_left _ (show _ ∈ my_122_0 from List.mem_of_getElem? (i := 13) rfl))
theorem cd_122_23 : mt_cd 122 23 = some (.invokevirtual 99) := mt_cd_of (q := (23, .invokevirtual 99, 3)) mq_122 ci_122 (List.mem_append_left _ (show _ ∈ my_122_0 from List.mem_of_getElem? (i := 14) rfl))
theorem cd_122_26 : mt_cd 122 26 = some (.ifCond .eq 20) := mt_cd_of (q := (26, .ifCond .eq 20, 3)) mq_122 ci_122 (List.mem_append_left _ (show _ ∈ my_122_0 from List.mem_of_getElem? (i := 15) rfl))
theorem cd_122_29 : mt_cd 122 29 = some (.aload_n 0) := mt_cd_of (q := (29, .aload_n 0, 1)) mq_122 ci_122 (List.mem_append_left _ (show _ ∈ my_122_0 from List.mem_of_getElem? (i := 16) rfl))
theorem cd_122_30 : mt_cd 122 30 = some (.getfield 24) := mt_cd_of (q := (30, .getfield 24, 3)) mq_122 ci_122 (List.mem_append_left _ (show _ ∈ my_122_0 from List.mem_of_getElem? (i := 17) rfl))
theorem cd_122_33 : mt_cd 122 33 = some (.iload_n 1) := mt_cd_of (q := (33, .iload_n 1, 1)) mq_122 ci_122 (List.mem_append_left _ (show _ ∈ my_122_0 from List.mem_of_getElem? (i := 18) rfl))
theorem cd_122_34 : mt_cd 122 34 = some (.bipush (-2)) := mt_cd_of (q := (34, .bipush (-2), 2)) mq_122 ci_122 (List.mem_append_left _ (show _ ∈ my_122_0 from List.mem_of_getElem? (i := 19) rfl))
theorem cd_122_36 : mt_cd 122 36 = some (.iastore) := mt_cd_of (q := (36, .iastore, 1)) mq_122 ci_122 (List.mem_append_left _ (show _ ∈ my_122_0 from List.mem_of_getElem? (i := 20) rfl))
theorem cd_122_37 : mt_cd 122 37 = some (.aload_n 0) := mt_cd_of (q := (37, .aload_n 0, 1)) mq_122 ci_122 (List.mem_append_left _ (show _ ∈ my_122_0 from List.mem_of_getElem? (i := 21) rfl))
theorem cd_122_38 : mt_cd 122 38 = some (.iload_n 1) := mt_cd_of (q := (38, .iload_n 1, 1)) mq_122 ci_122 (List.mem_append_left _ (show _ ∈ my_122_0 from List.mem_of_getElem? (i := 22) rfl))
theorem cd_122_39 : mt_cd 122 39 = some (.iconst 0) := mt_cd_of (q := (39, .iconst 0, 1)) mq_122 ci_122 (List.mem_append_left _ (show _ ∈ my_122_0 from List.mem_of_getElem? (i := 23) rfl))
theorem cd_122_40 : mt_cd 122 40 = some (.lconst 0) := mt_cd_of (q := (40, .lconst 0, 1)) mq_122 ci_122 (List.mem_append_left _ (show _ ∈ my_122_0 from List.mem_of_getElem? (i := 24) rfl))
theorem cd_122_41 : mt_cd 122 41 = some (.iconst (-1)) := mt_cd_of (q := (41, .iconst (-1), 1)) mq_122 ci_122 (List.mem_append_left _ (show _ ∈ my_122_0 from List.mem_of_getElem? (i := 25) rfl))
theorem cd_122_42 : mt_cd 122 42 = some (.invokevirtual 103) := mt_cd_of (q := (42, .invokevirtual 103, 3)) mq_122 ci_122 (List.mem_append_left _ (show _ ∈ my_122_0 from List.mem_of_getElem? (i := 26) rfl))
theorem cd_122_45 : mt_cd 122 45 = some (.ireturn) := mt_cd_of (q := (45, .ireturn, 1)) mq_122 ci_122 (List.mem_append_left _ (show _ ∈ my_122_0 from List.mem_of_getElem? (i := 27) rfl))
theorem cd_122_46 : mt_cd 122 46 = some (.aload_n 0) := mt_cd_of (q := (46, .aload_n 0, 1)) mq_122 ci_122 (List.mem_append_left _ (show _ ∈ my_122_0 from List.mem_of_getElem? (i := 28) rfl))
theorem cd_122_47 : mt_cd 122 47 = some (.getfield 24) := mt_cd_of (q := (47, .getfield 24, 3)) mq_122 ci_122 (List.mem_append_left _ (show _ ∈ my_122_0 from List.mem_of_getElem? (i := 29) rfl))
theorem cd_122_50 : mt_cd 122 50 = some (.iload_n 1) := mt_cd_of (q := (50, .iload_n 1, 1)) mq_122 ci_122 (List.mem_append_left _ (show _ ∈ my_122_0 from List.mem_of_getElem? (i := 30) rfl))
theorem cd_122_51 : mt_cd 122 51 = some (.aload_n 0) := mt_cd_of (q := (51, .aload_n 0, 1)) mq_122 ci_122 (List.mem_append_left _ (show _ ∈ my_122_0 from List.mem_of_getElem? (i := 31) rfl))
theorem cd_122_52 : mt_cd 122 52 = some (.getfield 41) := mt_cd_of (q := (52, .getfield 41, 3)) mq_122 ci_122 (List.mem_append_left _ (show _ ∈ my_122_0 from List.mem_of_getElem? (i := 32) rfl))
theorem cd_122_55 : mt_cd 122 55 = some (.aload_n 2) := mt_cd_of (q := (55, .aload_n 2, 1)) mq_122 ci_122 (List.mem_append_left _ (show _ ∈ my_122_0 from List.mem_of_getElem? (i := 33) rfl))
theorem cd_122_56 : mt_cd 122 56 = some (.getfield 71) := mt_cd_of (q := (56, .getfield 71, 3)) mq_122 ci_122 (List.mem_append_left _ (show _ ∈ my_122_0 from List.mem_of_getElem? (i := 34) rfl))
theorem cd_122_59 : mt_cd 122 59 = some (.invokevirtual 107) := mt_cd_of (q := (59, .invokevirtual 107, 3)) mq_122 ci_122 (List.mem_append_left _ (show _ ∈ my_122_0 from List.mem_of_getElem? (i := 35) rfl))
theorem cd_122_62 : mt_cd 122 62 = some (.iconst 5) := mt_cd_of (q := (62, .iconst 5, 1)) mq_122 ci_122 (List.mem_append_left _ (show _ ∈ my_122_0 from List.mem_of_getElem? (i := 36) rfl))
theorem cd_122_63 : mt_cd 122 63 = some (.if_icmp .ne 18) := mt_cd_of (q := (63, .if_icmp .ne 18, 3)) mq_122 ci_122 (List.mem_append_left _ (show _ ∈ my_122_0 from List.mem_of_getElem? (i := 37) rfl))
theorem cd_122_66 : mt_cd 122 66 = some (.aload_n 0) := mt_cd_of (q := (66, .aload_n 0, 1)) mq_122 ci_122 (List.mem_append_left _ (show _ ∈ my_122_0 from List.mem_of_getElem? (i := 38) rfl))
theorem cd_122_67 : mt_cd 122 67 = some (.getfield 41) := mt_cd_of (q := (67, .getfield 41, 3)) mq_122 ci_122 (List.mem_append_left _ (show _ ∈ my_122_0 from List.mem_of_getElem? (i := 39) rfl))
theorem cd_122_70 : mt_cd 122 70 = some (.getfield 111) := mt_cd_of (q := (70, .getfield 111, 3)) mq_122 ci_122 (List.mem_append_left _ (show _ ∈ my_122_0 from List.mem_of_getElem? (i := 40) rfl))
theorem cd_122_73 : mt_cd 122 73 = some (.aload_n 2) := mt_cd_of (q := (73, .aload_n 2, 1)) mq_122 ci_122 (List.mem_append_left _ (show _ ∈ my_122_0 from List.mem_of_getElem? (i := 41) rfl))
theorem cd_122_74 : mt_cd 122 74 = some (.getfield 71) := mt_cd_of (q := (74, .getfield 71, 3)) mq_122 ci_122 (List.mem_append_left _ (show _ ∈ my_122_0 from List.mem_of_getElem? (i := 42) rfl))
theorem cd_122_77 : mt_cd 122 77 = some (.iaload) := mt_cd_of (q := (77, .iaload, 1)) mq_122 ci_122 (List.mem_append_left _ (show _ ∈ my_122_0 from List.mem_of_getElem? (i := 43) rfl))
theorem cd_122_78 : mt_cd 122 78 = some (.goto 5) := mt_cd_of (q := (78, .goto 5, 3)) mq_122 ci_122 (List.mem_append_left _ (show _ ∈ my_122_0 from List.mem_of_getElem? (i := 44) rfl))
theorem cd_122_81 : mt_cd 122 81 = some (.bipush (-2)) := mt_cd_of (q := (81, .bipush (-2), 2)) mq_122 ci_122 (List.mem_append_left _ (show _ ∈ my_122_0 from List.mem_of_getElem? (i := 45) rfl))
theorem cd_122_83 : mt_cd 122 83 = some (.iastore) := mt_cd_of (q := (83, .iastore, 1)) mq_122 ci_122 (List.mem_append_left _ (show _ ∈ my_122_0 from List.mem_of_getElem? (i := 46) rfl))
theorem cd_122_84 : mt_cd 122 84 = some (.aload_n 0) := mt_cd_of (q := (84, .aload_n 0, 1)) mq_122 ci_122 (List.mem_append_left _ (show _ ∈ my_122_0 from List.mem_of_getElem? (i := 47) rfl))
theorem cd_122_85 : mt_cd 122 85 = some (.getfield 28) := mt_cd_of (q := (85, .getfield 28, 3)) mq_122 ci_122 (List.mem_append_left _ (show _ ∈ my_122_0 from List.mem_of_getElem? (i := 48) rfl))
theorem cd_122_88 : mt_cd 122 88 = some (.iload_n 1) := mt_cd_of (q := (88, .iload_n 1, 1)) mq_122 ci_122 (List.mem_append_left _ (show _ ∈ my_122_0 from List.mem_of_getElem? (i := 49) rfl))
theorem cd_122_89 : mt_cd 122 89 = some (.iconst 0) := mt_cd_of (q := (89, .iconst 0, 1)) mq_122 ci_122 (List.mem_append_left _ (show _ ∈ my_122_0 from List.mem_of_getElem? (i := 50) rfl))
theorem cd_122_90 : mt_cd 122 90 = some (.iastore) := mt_cd_of (q := (90, .iastore, 1)) mq_122 ci_122 (List.mem_append_left _ (show _ ∈ my_122_0 from List.mem_of_getElem? (i := 51) rfl))
theorem cd_122_91 : mt_cd 122 91 = some (.iconst 0) := mt_cd_of (q := (91, .iconst 0, 1)) mq_122 ci_122 (List.mem_append_left _ (show _ ∈ my_122_0 from List.mem_of_getElem? (i := 52) rfl))
theorem cd_122_92 : mt_cd 122 92 = some (.istore_n 3) := mt_cd_of (q := (92, .istore_n 3, 1)) mq_122 ci_122 (List.mem_append_left _ (show _ ∈ my_122_0 from List.mem_of_getElem? (i := 53) rfl))
theorem cd_122_93 : mt_cd 122 93 = some (.iload_n 3) := mt_cd_of (q := (93, .iload_n 3, 1)) mq_122 ci_122 (List.mem_append_left _ (show _ ∈ my_122_0 from List.mem_of_getElem? (i := 54) rfl))
theorem cd_122_94 : mt_cd 122 94 = some (.bipush 8) := mt_cd_of (q := (94, .bipush 8, 2)) mq_122 ci_122 (List.mem_append_left _ (show _ ∈ my_122_0 from List.mem_of_getElem? (i := 55) rfl))
theorem cd_122_96 : mt_cd 122 96 = some (.if_icmp .ge 41) := mt_cd_of (q := (96, .if_icmp .ge 41, 3)) mq_122 ci_122 (List.mem_append_left _ (show _ ∈ my_122_0 from List.mem_of_getElem? (i := 56) rfl))
theorem cd_122_99 : mt_cd 122 99 = some (.aload_n 0) := mt_cd_of (q := (99, .aload_n 0, 1)) mq_122 ci_122 (List.mem_append_left _ (show _ ∈ my_122_0 from List.mem_of_getElem? (i := 57) rfl))
theorem cd_122_100 : mt_cd 122 100 = some (.getfield 41) := mt_cd_of (q := (100, .getfield 41, 3)) mq_122 ci_122 (List.mem_append_left _ (show _ ∈ my_122_0 from List.mem_of_getElem? (i := 58) rfl))
theorem cd_122_103 : mt_cd 122 103 = some (.aload_n 0) := mt_cd_of (q := (103, .aload_n 0, 1)) mq_122 ci_122 (List.mem_append_left _ (show _ ∈ my_122_0 from List.mem_of_getElem? (i := 59) rfl))
theorem cd_122_104 : mt_cd 122 104 = some (.getfield 24) := mt_cd_of (q := (104, .getfield 24, 3)) mq_122 ci_122 (List.mem_append_right _ ((show _ ∈ my_122_1 from List.mem_of_getElem? (i := 0) rfl)))
theorem cd_122_107 : mt_cd 122 107 = some (.iload_n 1) := mt_cd_of (q := (107, .iload_n 1, 1)) mq_122 ci_122 (List.mem_append_right _ ((show _ ∈ my_122_1 from List.mem_of_getElem? (i := 1) rfl)))
theorem cd_122_108 : mt_cd 122 108 = some (.iaload) := mt_cd_of (q := (108, .iaload, 1)) mq_122 ci_122 (List.mem_append_right _ ((show _ ∈ my_122_1 from List.mem_of_getElem? (i := 2) rfl)))
theorem cd_122_109 : mt_cd 122 109 = some (.invokevirtual 114) := mt_cd_of (q := (109, .invokevirtual 114, 3)) mq_122 ci_122 (List.mem_append_right _ ((show _ ∈ my_122_1 from List.mem_of_getElem? (i := 3) rfl)))
theorem cd_122_112 : mt_cd 122 112 = some (.ifCond .eq 25) := mt_cd_of (q := (112, .ifCond .eq 25, 3)) mq_122 ci_122 (List.mem_append_right _ ((show _ ∈ my_122_1 from List.mem_of_getElem? (i := 4) rfl)))
theorem cd_122_115 : mt_cd 122 115 = some (.aload_n 0) := mt_cd_of (q := (115, .aload_n 0, 1)) mq_122 ci_122 (List.mem_append_right _ ((show _ ∈ my_122_1 from List.mem_of_getElem? (i := 5) rfl)))
theorem cd_122_116 : mt_cd 122 116 = some (.iload_n 1) := mt_cd_of (q := (116, .iload_n 1, 1)) mq_122 ci_122 (List.mem_append_right _ ((show _ ∈ my_122_1 from List.mem_of_getElem? (i := 6) rfl)))
theorem cd_122_117 : mt_cd 122 117 = some (.aload_n 0) := mt_cd_of (q := (117, .aload_n 0, 1)) mq_122 ci_122 (List.mem_append_right _ ((show _ ∈ my_122_1 from List.mem_of_getElem? (i := 7) rfl)))
theorem cd_122_118 : mt_cd 122 118 = some (.getfield 24) := mt_cd_of (q := (118, .getfield 24, 3)) mq_122 ci_122 (List.mem_append_right _ ((show _ ∈ my_122_1 from List.mem_of_getElem? (i := 8) rfl)))
theorem cd_122_121 : mt_cd 122 121 = some (.iload_n 1) := mt_cd_of (q := (121, .iload_n 1, 1)) mq_122 ci_122 (List.mem_append_right _ ((show _ ∈ my_122_1 from List.mem_of_getElem? (i := 9) rfl)))
theorem cd_122_122 : mt_cd 122 122 = some (.iaload) := mt_cd_of (q := (122, .iaload, 1)) mq_122 ci_122 (List.mem_append_right _ ((show _ ∈ my_122_1 from List.mem_of_getElem? (i := 10) rfl)))
theorem cd_122_123 : mt_cd 122 123 = some (.invokevirtual 117) := mt_cd_of (q := (123, .invokevirtual 117, 3)) mq_122 ci_122 (List.mem_append_right _ ((show _ ∈ my_122_1 from List.mem_of_getElem? (i := 11) rfl)))
theorem cd_122_126 : mt_cd 122 126 = some (.ifCond .eq 5) := mt_cd_of (q := (126, .ifCond .eq 5, 3)) mq_122 ci_122 (List.mem_append_right _ ((show _ ∈ my_122_1 from List.mem_of_getElem? (i := 12) rfl)))
theorem cd_122_129 : mt_cd 122 129 = some (.iconst 1) := mt_cd_of (q := (129, .iconst 1, 1)) mq_122 ci_122 (List.mem_append_right _ ((show _ ∈ my_122_1 from List.mem_of_getElem? (i := 13) rfl)))
theorem cd_122_130 : mt_cd 122 130 = some (.ireturn) := mt_cd_of (q := (130, .ireturn, 1)) mq_122 ci_122 (List.mem_append_right _ ((show _ ∈ my_122_1 from List.mem_of_getElem? (i := 14) rfl)))
theorem cd_122_131 : mt_cd 122 131 = some (.iinc 3 1) := mt_cd_of (q := (131, .iinc 3 1, 3)) mq_122 ci_122 (List.mem_append_right _ ((show _ ∈ my_122_1 from List.mem_of_getElem? (i := 15) rfl)))
theorem cd_122_134 : mt_cd 122 134 = some (.goto (-41)) := mt_cd_of (q := (134, .goto (-41), 3)) mq_122 ci_122 (List.mem_append_right _ ((show _ ∈ my_122_1 from List.mem_of_getElem? (i := 16) rfl)))
theorem cd_122_137 : mt_cd 122 137 = some (.aload_n 0) := mt_cd_of (q := (137, .aload_n 0, 1)) mq_122 ci_122 (List.mem_append_right _ ((show _ ∈ my_122_1 from List.mem_of_getElem? (i := 17) rfl)))
theorem cd_122_138 : mt_cd 122 138 = some (.getfield 24) := mt_cd_of (q := (138, .getfield 24, 3)) mq_122 ci_122 (List.mem_append_right _ ((show _ ∈ my_122_1 from List.mem_of_getElem? (i := 18) rfl)))
theorem cd_122_141 : mt_cd 122 141 = some (.iload_n 1) := mt_cd_of (q := (141, .iload_n 1, 1)) mq_122 ci_122 (List.mem_append_right _ ((show _ ∈ my_122_1 from List.mem_of_getElem? (i := 19) rfl)))
theorem cd_122_142 : mt_cd 122 142 = some (.iaload) := mt_cd_of (q := (142, .iaload, 1)) mq_122 ci_122 (List.mem_append_right _ ((show _ ∈ my_122_1 from List.mem_of_getElem? (i := 20) rfl)))
theorem cd_122_143 : mt_cd 122 143 = some (.iconst (-1)) := mt_cd_of (q := (143, .iconst (-1), 1)) mq_122 ci_122 (List.mem_append_right _ ((show _ ∈ my_122_1 from List.mem_of_getElem? (i := 21) rfl)))
theorem cd_122_144 : mt_cd 122 144 = some (.if_icmp .eq 5) := mt_cd_of (q := (144, .if_icmp .eq 5, 3)) mq_122 ci_122 (List.mem_append_right _ ((show _ ∈ my_122_1 from List.mem_of_getElem? (i := 22) rfl)))
theorem cd_122_147 : mt_cd 122 147 = some (.iconst 0) := mt_cd_of (q := (147, .iconst 0, 1)) mq_122 ci_122 (List.mem_append_right _ ((show _ ∈ my_122_1 from List.mem_of_getElem? (i := 23) rfl)))
theorem cd_122_148 : mt_cd 122 148 = some (.ireturn) := mt_cd_of (q := (148, .ireturn, 1)) mq_122 ci_122 (List.mem_append_right _ ((show _ ∈ my_122_1 from List.mem_of_getElem? (i := 24) rfl)))
theorem cd_122_149 : mt_cd 122 149 = some (.aload_n 0) := mt_cd_of (q := (149, .aload_n 0, 1)) mq_122 ci_122 (List.mem_append_right _ ((show _ ∈ my_122_1 from List.mem_of_getElem? (i := 25) rfl)))
theorem cd_122_150 : mt_cd 122 150 = some (.getfield 24) := mt_cd_of (q := (150, .getfield 24, 3)) mq_122 ci_122 (List.mem_append_right _ ((show _ ∈ my_122_1 from List.mem_of_getElem? (i := 26) rfl)))
theorem cd_122_153 : mt_cd 122 153 = some (.iload_n 1) := mt_cd_of (q := (153, .iload_n 1, 1)) mq_122 ci_122 (List.mem_append_right _ ((show _ ∈ my_122_1 from List.mem_of_getElem? (i := 27) rfl)))
theorem cd_122_154 : mt_cd 122 154 = some (.bipush (-2)) := mt_cd_of (q := (154, .bipush (-2), 2)) mq_122 ci_122 (List.mem_append_right _ ((show _ ∈ my_122_1 from List.mem_of_getElem? (i := 28) rfl)))
theorem cd_122_156 : mt_cd 122 156 = some (.iastore) := mt_cd_of (q := (156, .iastore, 1)) mq_122 ci_122 (List.mem_append_right _ ((show _ ∈ my_122_1 from List.mem_of_getElem? (i := 29) rfl)))
theorem cd_122_157 : mt_cd 122 157 = some (.aload_n 0) := mt_cd_of (q := (157, .aload_n 0, 1)) mq_122 ci_122 (List.mem_append_right _ ((show _ ∈ my_122_1 from List.mem_of_getElem? (i := 30) rfl)))
theorem cd_122_158 : mt_cd 122 158 = some (.iload_n 1) := mt_cd_of (q := (158, .iload_n 1, 1)) mq_122 ci_122 (List.mem_append_right _ ((show _ ∈ my_122_1 from List.mem_of_getElem? (i := 31) rfl)))
theorem cd_122_159 : mt_cd 122 159 = some (.iconst 4) := mt_cd_of (q := (159, .iconst 4, 1)) mq_122 ci_122 (List.mem_append_right _ ((show _ ∈ my_122_1 from List.mem_of_getElem? (i := 32) rfl)))
theorem cd_122_160 : mt_cd 122 160 = some (.aload_n 0) := mt_cd_of (q := (160, .aload_n 0, 1)) mq_122 ci_122 (List.mem_append_right _ ((show _ ∈ my_122_1 from List.mem_of_getElem? (i := 33) rfl)))
theorem cd_122_161 : mt_cd 122 161 = some (.getfield 41) := mt_cd_of (q := (161, .getfield 41, 3)) mq_122 ci_122 (List.mem_append_right _ ((show _ ∈ my_122_1 from List.mem_of_getElem? (i := 34) rfl)))
theorem cd_122_164 : mt_cd 122 164 = some (.getfield 121) := mt_cd_of (q := (164, .getfield 121, 3)) mq_122 ci_122 (List.mem_append_right _ ((show _ ∈ my_122_1 from List.mem_of_getElem? (i := 35) rfl)))
theorem cd_122_167 : mt_cd 122 167 = some (.aload_n 2) := mt_cd_of (q := (167, .aload_n 2, 1)) mq_122 ci_122 (List.mem_append_right _ ((show _ ∈ my_122_1 from List.mem_of_getElem? (i := 36) rfl)))
theorem cd_122_168 : mt_cd 122 168 = some (.getfield 71) := mt_cd_of (q := (168, .getfield 71, 3)) mq_122 ci_122 (List.mem_append_right _ ((show _ ∈ my_122_1 from List.mem_of_getElem? (i := 37) rfl)))
theorem cd_122_171 : mt_cd 122 171 = some (.laload) := mt_cd_of (q := (171, .laload, 1)) mq_122 ci_122 (List.mem_append_right _ ((show _ ∈ my_122_1 from List.mem_of_getElem? (i := 38) rfl)))
theorem cd_122_172 : mt_cd 122 172 = some (.iconst (-1)) := mt_cd_of (q := (172, .iconst (-1), 1)) mq_122 ci_122 (List.mem_append_right _ ((show _ ∈ my_122_1 from List.mem_of_getElem? (i := 39) rfl)))
theorem cd_122_173 : mt_cd 122 173 = some (.invokevirtual 103) := mt_cd_of (q := (173, .invokevirtual 103, 3)) mq_122 ci_122 (List.mem_append_right _ ((show _ ∈ my_122_1 from List.mem_of_getElem? (i := 40) rfl)))
theorem cd_122_176 : mt_cd 122 176 = some (.ireturn) := mt_cd_of (q := (176, .ireturn, 1)) mq_122 ci_122 (List.mem_append_right _ ((show _ ∈ my_122_1 from List.mem_of_getElem? (i := 41) rfl)))
theorem b_122_0 {d : Nat} {Q : (Option Value ⊕ Nat) → mi_H → Prop} (n sl : Nat) (f : Nat → mi_C) {l1 : Nat} {l2 : Int32} {o3 : Option Value} {o4 : Option Value} {fs5 : List Value} {x8 : Nat} (m10 i10 ka10 : Nat) (g10 : Nat → Option Nat) {x15 : Nat} {fs17 : List Value} {x20 : Nat} (m22 i22 : Nat) (g22 : Nat → Int32) (h6 : f l1 = .inr (11, fs5)) (h7 : l1 < n) (h9 : fs5[4]? = some (.ref x8)) (h11 : f x8 = .inl (ka10, m10, .inr (.inr (.inr (.inr g10))))) (h12 : x8 < n) (h13 : 4 ≤ ka10 ∧ ka10 < mt_na) (h14 : mi_ix l2 m10 i10) (h16 : g10 i10 = some x15) (h18 : f l1 = .inr (11, fs17)) (h19 : l1 < n) (h21 : fs17[5]? = some (.ref x20)) (h23 : f x20 = .inl (0, m22, .inl g22)) (h24 : x20 < n ∨ x20 = mi_SC) (h25 : mi_ix l2 m22 i22) (h26 : ¬ (g22 i22) = ((-3)) → mi_W d 122 91 [some (.ref l1), some (.int l2), some (.ref x15), o4] [] (n, sl, f) Q) (h27 : ¬ (¬ (g22 i22) = ((-3))) → mi_W d 122 18 [some (.ref l1), some (.int l2), some (.ref x15), o4] [] (n, sl, f) Q) : mi_W d 122 0 [some (.ref l1), some (.int l2), o3, o4] [] (n, sl, f) Q := by
  refine w_aload_n cd_122_0 rfl ?_
  refine w_getfield cd_122_1 (show mt_f 11 20 = some (11, 4) by decide +kernel) h6 h7 h9 ?_
  refine w_iload_n cd_122_4 rfl ?_
  refine w_aaload (w := .ref x15) cd_122_5 h11 h12 h13 h14 (by rw [h16]; rfl) ?_
  refine w_astore_n (ls' := [some (.ref l1), some (.int l2), some (.ref x15), o4]) cd_122_6 (Nat.le_of_ble_eq_true rfl) rfl ?_
  refine w_aload_n cd_122_7 rfl ?_
  refine w_getfield cd_122_8 (show mt_f 11 24 = some (11, 5) by decide +kernel) h18 h19 h21 ?_
  refine w_iload_n cd_122_11 rfl ?_
  refine w_iaload cd_122_12 h23 h24 h25 ?_
  refine w_bipush (v := (-3)) cd_122_13 (by decide) ?_
  exact w_if_icmpne cd_122_15 (by decide) h26 h27
theorem b_122_18 {d : Nat} {Q : (Option Value ⊕ Nat) → mi_H → Prop} (n sl : Nat) (f : Nat → mi_C) {l1 : Nat} {l2 : Int32} {l3 : Nat} {o4 : Option Value} {fs5 : List Value} {x8 : Nat} {fs10 : List Value} (h6 : f l1 = .inr (11, fs5)) (h7 : l1 < n) (h9 : fs5[1]? = some (.ref x8)) (h11 : f x8 = .inr (7, fs10)) (h12 : x8 < n) (h13 : mi_W d 123 0 (mi_en 3 [.ref x8, .ref l3]) [] (n, sl, f) (mi_Kc d 122 23 [some (.ref l1), some (.int l2), some (.ref l3), o4] [] Q)) : mi_W (d + 1) 122 18 [some (.ref l1), some (.int l2), some (.ref l3), o4] [] (n, sl, f) Q := by
  refine w_aload_n cd_122_18 rfl ?_
  refine w_getfield cd_122_19 (show mt_f 11 50 = some (11, 1) by decide +kernel) h6 h7 h9 ?_
  refine w_aload_n cd_122_22 rfl ?_
  exact w_invokevirtual cd_122_23 (show mt_m 11 99 = some (123, 0) by decide +kernel) (rest := []) rfl (as := [.ref x8, .ref l3]) rfl h11 (Or.inl h12) ⟨Nat.le_of_ble_eq_true rfl, Nat.le_of_ble_eq_true rfl, Nat.le_of_ble_eq_true rfl⟩ h13
theorem b_122_26 {d : Nat} {Q : (Option Value ⊕ Nat) → mi_H → Prop} (n sl : Nat) (f : Nat → mi_C) {l1 : Nat} {l2 : Int32} {l3 : Nat} {o4 : Option Value} {s5 : Int32} (h6 : s5 = (0 : Int32) → mi_W d 122 46 [some (.ref l1), some (.int l2), some (.ref l3), o4] [] (n, sl, f) Q) (h7 : ¬ (s5 = (0 : Int32)) → mi_W d 122 29 [some (.ref l1), some (.int l2), some (.ref l3), o4] [] (n, sl, f) Q) : mi_W d 122 26 [some (.ref l1), some (.int l2), some (.ref l3), o4] [.int s5] (n, sl, f) Q := by
  exact w_ifeq cd_122_26 (by decide) h6 h7
theorem b_122_29 {d : Nat} {Q : (Option Value ⊕ Nat) → mi_H → Prop} (n sl : Nat) (f : Nat → mi_C) {l1 : Nat} {l2 : Int32} {l3 : Nat} {o4 : Option Value} {fs5 : List Value} {x8 : Nat} (m10 i10 : Nat) (g10 : Nat → Int32) {fs14 : List Value} (h6 : f l1 = .inr (11, fs5)) (h7 : l1 < n) (h9 : fs5[5]? = some (.ref x8)) (h11 : f x8 = .inl (0, m10, .inl g10)) (h12 : x8 < n) (h13 : mi_ix l2 m10 i10) (h15 : (va_up f x8 (.inl (0, m10, .inl (upd g10 i10 ((-2)))))) l1 = .inr (11, fs14)) (h16 : l1 < n) (h17 : mi_W d 124 0 (mi_en 6 [.ref l1, .int l2, .int 0, .long 0, .int (-1)]) [] (n, sl, (va_up f x8 (.inl (0, m10, .inl (upd g10 i10 ((-2))))))) (mi_Kc d 122 42 [some (.ref l1), some (.int l2), some (.ref l3), o4] [] Q)) : mi_W (d + 1) 122 29 [some (.ref l1), some (.int l2), some (.ref l3), o4] [] (n, sl, f) Q := by
  refine w_aload_n cd_122_29 rfl ?_
  refine w_getfield cd_122_30 (show mt_f 11 24 = some (11, 5) by decide +kernel) h6 h7 h9 ?_
  refine w_iload_n cd_122_33 rfl ?_
  refine w_bipush (v := (-2)) cd_122_34 (by decide) ?_
  refine w_iastore cd_122_36 h11 h12 h13 ?_
  refine w_aload_n cd_122_37 rfl ?_
  refine w_iload_n cd_122_38 rfl ?_
  refine w_iconst (v := 0) cd_122_39 (by decide) ?_
  refine w_lconst (lv := 0) cd_122_40 (by decide) ?_
  refine w_iconst (v := (-1)) cd_122_41 (by decide) ?_
  exact w_invokevirtual cd_122_42 (show mt_m 11 103 = some (124, 0) by decide +kernel) (rest := []) rfl (as := [.ref l1, .int l2, .int 0, .long 0, .int (-1)]) rfl h15 (Or.inl h16) ⟨Nat.le_of_ble_eq_true rfl, Nat.le_of_ble_eq_true rfl, Nat.le_of_ble_eq_true rfl⟩ h17
theorem b_122_45 {d : Nat} {Q : (Option Value ⊕ Nat) → mi_H → Prop} (n sl : Nat) (f : Nat → mi_C) {l1 : Nat} {l2 : Int32} {l3 : Nat} {o4 : Option Value} {s5 : Int32} (h6 : s5 = 0 ∨ s5 = 1) (h7 : Q (.inl (some (.int s5))) (n, sl, f)) : mi_W d 122 45 [some (.ref l1), some (.int l2), some (.ref l3), o4] [.int s5] (n, sl, f) Q := by
  exact w_ireturn_z cd_122_45 (by decide +kernel) h6 h7
theorem b_122_46 {d : Nat} {Q : (Option Value ⊕ Nat) → mi_H → Prop} (n sl : Nat) (f : Nat → mi_C) {l1 : Nat} {l2 : Int32} {l3 : Nat} {o4 : Option Value} {fs5 : List Value} {x8 : Nat} {fs10 : List Value} {x13 : Nat} {fs15 : List Value} {x18 : Int32} {fs20 : List Value} (h6 : f l1 = .inr (11, fs5)) (h7 : l1 < n) (h9 : fs5[5]? = some (.ref x8)) (h11 : f l1 = .inr (11, fs10)) (h12 : l1 < n) (h14 : fs10[0]? = some (.ref x13)) (h16 : f l3 = .inr (9, fs15)) (h17 : l3 < n) (h19 : fs15[0]? = some (.int x18)) (h21 : f x13 = .inr (2, fs20)) (h22 : x13 < n) (h23 : mi_W d 79 0 (mi_en 2 [.ref x13, .int x18]) [] (n, sl, f) (mi_Kc d 122 59 [some (.ref l1), some (.int l2), some (.ref l3), o4] [.int l2, .ref x8] Q)) : mi_W (d + 1) 122 46 [some (.ref l1), some (.int l2), some (.ref l3), o4] [] (n, sl, f) Q := by
  refine w_aload_n cd_122_46 rfl ?_
  refine w_getfield cd_122_47 (show mt_f 11 24 = some (11, 5) by decide +kernel) h6 h7 h9 ?_
  refine w_iload_n cd_122_50 rfl ?_
  refine w_aload_n cd_122_51 rfl ?_
  refine w_getfield cd_122_52 (show mt_f 11 41 = some (11, 0) by decide +kernel) h11 h12 h14 ?_
  refine w_aload_n cd_122_55 rfl ?_
  refine w_getfield cd_122_56 (show mt_f 11 71 = some (9, 0) by decide +kernel) h16 h17 h19 ?_
  exact w_invokevirtual cd_122_59 (show mt_m 11 107 = some (79, 0) by decide +kernel) (rest := [.int l2, .ref x8]) rfl (as := [.ref x13, .int x18]) rfl h21 (Or.inl h22) ⟨Nat.le_of_ble_eq_true rfl, Nat.le_of_ble_eq_true rfl, Nat.le_of_ble_eq_true rfl⟩ h23
theorem b_122_62 {d : Nat} {Q : (Option Value ⊕ Nat) → mi_H → Prop} (n sl : Nat) (f : Nat → mi_C) {l1 : Nat} {l2 : Int32} {l3 : Nat} {o4 : Option Value} {s5 : Int32} {s6 : Int32} {s7 : Nat} (h8 : ¬ s5 = 5 → mi_W d 122 81 [some (.ref l1), some (.int l2), some (.ref l3), o4] [.int s6, .ref s7] (n, sl, f) Q) (h9 : ¬ (¬ s5 = 5) → mi_W d 122 66 [some (.ref l1), some (.int l2), some (.ref l3), o4] [.int s6, .ref s7] (n, sl, f) Q) : mi_W d 122 62 [some (.ref l1), some (.int l2), some (.ref l3), o4] [.int s5, .int s6, .ref s7] (n, sl, f) Q := by
  refine w_iconst (v := 5) cd_122_62 (by decide) ?_
  exact w_if_icmpne cd_122_63 (by decide) h8 h9
theorem b_122_66 {d : Nat} {Q : (Option Value ⊕ Nat) → mi_H → Prop} (n sl : Nat) (f : Nat → mi_C) {l1 : Nat} {l2 : Int32} {l3 : Nat} {o4 : Option Value} {s5 : Int32} {s6 : Nat} {fs7 : List Value} {x10 : Nat} {fs12 : List Value} {x15 : Nat} {fs17 : List Value} {x20 : Int32} (m22 i22 : Nat) (g22 : Nat → Int32) (h8 : f l1 = .inr (11, fs7)) (h9 : l1 < n) (h11 : fs7[0]? = some (.ref x10)) (h13 : f x10 = .inr (2, fs12)) (h14 : x10 < n) (h16 : fs12[1]? = some (.ref x15)) (h18 : f l3 = .inr (9, fs17)) (h19 : l3 < n) (h21 : fs17[0]? = some (.int x20)) (h23 : f x15 = .inl (0, m22, .inl g22)) (h24 : x15 < n ∨ x15 = mi_SC) (h25 : mi_ix x20 m22 i22) (h26 : mi_W d 122 83 [some (.ref l1), some (.int l2), some (.ref l3), o4] [.int (g22 i22), .int s5, .ref s6] (n, sl, f) Q) : mi_W d 122 66 [some (.ref l1), some (.int l2), some (.ref l3), o4] [.int s5, .ref s6] (n, sl, f) Q := by
  refine w_aload_n cd_122_66 rfl ?_
  refine w_getfield cd_122_67 (show mt_f 11 41 = some (11, 0) by decide +kernel) h8 h9 h11 ?_
  refine w_getfield cd_122_70 (show mt_f 11 111 = some (2, 1) by decide +kernel) h13 h14 h16 ?_
  refine w_aload_n cd_122_73 rfl ?_
  refine w_getfield cd_122_74 (show mt_f 11 71 = some (9, 0) by decide +kernel) h18 h19 h21 ?_
  refine w_iaload cd_122_77 h23 h24 h25 ?_
  exact w_goto cd_122_78 (by decide) h26
theorem b_122_81 {d : Nat} {Q : (Option Value ⊕ Nat) → mi_H → Prop} (n sl : Nat) (f : Nat → mi_C) {l1 : Nat} {l2 : Int32} {l3 : Nat} {o4 : Option Value} {s5 : Int32} {s6 : Nat} (h7 : mi_W d 122 83 [some (.ref l1), some (.int l2), some (.ref l3), o4] [.int (-2), .int s5, .ref s6] (n, sl, f) Q) : mi_W d 122 81 [some (.ref l1), some (.int l2), some (.ref l3), o4] [.int s5, .ref s6] (n, sl, f) Q := by
  refine w_bipush (v := (-2)) cd_122_81 (by decide) ?_
  exact h7
theorem b_122_83 {d : Nat} {Q : (Option Value ⊕ Nat) → mi_H → Prop} (n sl : Nat) (f : Nat → mi_C) {l1 : Nat} {l2 : Int32} {l3 : Nat} {o4 : Option Value} {s5 : Int32} {s6 : Int32} {s7 : Nat} (m8 i8 : Nat) (g8 : Nat → Int32) {fs12 : List Value} {x15 : Nat} (m17 i17 : Nat) (g17 : Nat → Int32) (h9 : f s7 = .inl (0, m8, .inl g8)) (h10 : s7 < n) (h11 : mi_ix s6 m8 i8) (h13 : (va_up f s7 (.inl (0, m8, .inl (upd g8 i8 s5)))) l1 = .inr (11, fs12)) (h14 : l1 < n) (h16 : fs12[6]? = some (.ref x15)) (h18 : (va_up f s7 (.inl (0, m8, .inl (upd g8 i8 s5)))) x15 = .inl (0, m17, .inl g17)) (h19 : x15 < n) (h20 : mi_ix l2 m17 i17) (h21 : mi_W d 122 91 [some (.ref l1), some (.int l2), some (.ref l3), o4] [] (n, sl, (va_up (va_up f s7 (.inl (0, m8, .inl (upd g8 i8 s5)))) x15 (.inl (0, m17, .inl (upd g17 i17 0))))) Q) : mi_W d 122 83 [some (.ref l1), some (.int l2), some (.ref l3), o4] [.int s5, .int s6, .ref s7] (n, sl, f) Q := by
  refine w_iastore cd_122_83 h9 h10 h11 ?_
  refine w_aload_n cd_122_84 rfl ?_
  refine w_getfield cd_122_85 (show mt_f 11 28 = some (11, 6) by decide +kernel) h13 h14 h16 ?_
  refine w_iload_n cd_122_88 rfl ?_
  refine w_iconst (v := 0) cd_122_89 (by decide) ?_
  refine w_iastore cd_122_90 h18 h19 h20 ?_
  exact h21
theorem b_122_91 {d : Nat} {Q : (Option Value ⊕ Nat) → mi_H → Prop} (n sl : Nat) (f : Nat → mi_C) {l1 : Nat} {l2 : Int32} {l3 : Nat} {o4 : Option Value} (h5 : mi_W d 122 93 [some (.ref l1), some (.int l2), some (.ref l3), some (.int 0)] [] (n, sl, f) Q) : mi_W d 122 91 [some (.ref l1), some (.int l2), some (.ref l3), o4] [] (n, sl, f) Q := by
  refine w_iconst (v := 0) cd_122_91 (by decide) ?_
  refine w_istore_n (ls' := [some (.ref l1), some (.int l2), some (.ref l3), some (.int 0)]) cd_122_92 (Nat.le_of_ble_eq_true rfl) rfl ?_
  exact h5
theorem b_122_93 {d : Nat} {Q : (Option Value ⊕ Nat) → mi_H → Prop} (n sl : Nat) (f : Nat → mi_C) {l1 : Nat} {l2 : Int32} {l3 : Nat} {l4 : Int32} (h5 : 8 ≤ l4 → mi_W d 122 137 [some (.ref l1), some (.int l2), some (.ref l3), some (.int l4)] [] (n, sl, f) Q) (h6 : ¬ (8 ≤ l4) → mi_W d 122 99 [some (.ref l1), some (.int l2), some (.ref l3), some (.int l4)] [] (n, sl, f) Q) : mi_W d 122 93 [some (.ref l1), some (.int l2), some (.ref l3), some (.int l4)] [] (n, sl, f) Q := by
  refine w_iload_n cd_122_93 rfl ?_
  refine w_bipush (v := 8) cd_122_94 (by decide) ?_
  exact w_if_icmpge cd_122_96 (by decide) h5 h6
theorem b_122_99 {d : Nat} {Q : (Option Value ⊕ Nat) → mi_H → Prop} (n sl : Nat) (f : Nat → mi_C) {l1 : Nat} {l2 : Int32} {l3 : Nat} {l4 : Int32} {fs5 : List Value} {x8 : Nat} {fs10 : List Value} {x13 : Nat} (m15 i15 : Nat) (g15 : Nat → Int32) {fs19 : List Value} (h6 : f l1 = .inr (11, fs5)) (h7 : l1 < n) (h9 : fs5[0]? = some (.ref x8)) (h11 : f l1 = .inr (11, fs10)) (h12 : l1 < n) (h14 : fs10[5]? = some (.ref x13)) (h16 : f x13 = .inl (0, m15, .inl g15)) (h17 : x13 < n ∨ x13 = mi_SC) (h18 : mi_ix l2 m15 i15) (h20 : f x8 = .inr (2, fs19)) (h21 : x8 < n) (h22 : mi_W d 80 0 (mi_en 2 [.ref x8, .int (g15 i15)]) [] (n, sl, f) (mi_Kc d 122 109 [some (.ref l1), some (.int l2), some (.ref l3), some (.int l4)] [] Q)) : mi_W (d + 1) 122 99 [some (.ref l1), some (.int l2), some (.ref l3), some (.int l4)] [] (n, sl, f) Q := by
  refine w_aload_n cd_122_99 rfl ?_
  refine w_getfield cd_122_100 (show mt_f 11 41 = some (11, 0) by decide +kernel) h6 h7 h9 ?_
  refine w_aload_n cd_122_103 rfl ?_
  refine w_getfield cd_122_104 (show mt_f 11 24 = some (11, 5) by decide +kernel) h11 h12 h14 ?_
  refine w_iload_n cd_122_107 rfl ?_
  refine w_iaload cd_122_108 h16 h17 h18 ?_
  exact w_invokevirtual cd_122_109 (show mt_m 11 114 = some (80, 0) by decide +kernel) (rest := []) rfl (as := [.ref x8, .int (g15 i15)]) rfl h20 (Or.inl h21) ⟨Nat.le_of_ble_eq_true rfl, Nat.le_of_ble_eq_true rfl, Nat.le_of_ble_eq_true rfl⟩ h22
theorem b_122_112 {d : Nat} {Q : (Option Value ⊕ Nat) → mi_H → Prop} (n sl : Nat) (f : Nat → mi_C) {l1 : Nat} {l2 : Int32} {l3 : Nat} {l4 : Int32} {s5 : Int32} (h6 : s5 = (0 : Int32) → mi_W d 122 137 [some (.ref l1), some (.int l2), some (.ref l3), some (.int l4)] [] (n, sl, f) Q) (h7 : ¬ (s5 = (0 : Int32)) → mi_W d 122 115 [some (.ref l1), some (.int l2), some (.ref l3), some (.int l4)] [] (n, sl, f) Q) : mi_W d 122 112 [some (.ref l1), some (.int l2), some (.ref l3), some (.int l4)] [.int s5] (n, sl, f) Q := by
  exact w_ifeq cd_122_112 (by decide) h6 h7
theorem b_122_115 {d : Nat} {Q : (Option Value ⊕ Nat) → mi_H → Prop} (n sl : Nat) (f : Nat → mi_C) {l1 : Nat} {l2 : Int32} {l3 : Nat} {l4 : Int32} {fs5 : List Value} {x8 : Nat} (m10 i10 : Nat) (g10 : Nat → Int32) {fs14 : List Value} (h6 : f l1 = .inr (11, fs5)) (h7 : l1 < n) (h9 : fs5[5]? = some (.ref x8)) (h11 : f x8 = .inl (0, m10, .inl g10)) (h12 : x8 < n ∨ x8 = mi_SC) (h13 : mi_ix l2 m10 i10) (h15 : f l1 = .inr (11, fs14)) (h16 : l1 < n) (h17 : mi_W d 125 0 (mi_en 5 [.ref l1, .int l2, .int (g10 i10)]) [] (n, sl, f) (mi_Kc d 122 123 [some (.ref l1), some (.int l2), some (.ref l3), some (.int l4)] [] Q)) : mi_W (d + 1) 122 115 [some (.ref l1), some (.int l2), some (.ref l3), some (.int l4)] [] (n, sl, f) Q := by
  refine w_aload_n cd_122_115 rfl ?_
  refine w_iload_n cd_122_116 rfl ?_
  refine w_aload_n cd_122_117 rfl ?_
  refine w_getfield cd_122_118 (show mt_f 11 24 = some (11, 5) by decide +kernel) h6 h7 h9 ?_
  refine w_iload_n cd_122_121 rfl ?_
  refine w_iaload cd_122_122 h11 h12 h13 ?_
  exact w_invokevirtual cd_122_123 (show mt_m 11 117 = some (125, 0) by decide +kernel) (rest := []) rfl (as := [.ref l1, .int l2, .int (g10 i10)]) rfl h15 (Or.inl h16) ⟨Nat.le_of_ble_eq_true rfl, Nat.le_of_ble_eq_true rfl, Nat.le_of_ble_eq_true rfl⟩ h17
theorem b_122_126 {d : Nat} {Q : (Option Value ⊕ Nat) → mi_H → Prop} (n sl : Nat) (f : Nat → mi_C) {l1 : Nat} {l2 : Int32} {l3 : Nat} {l4 : Int32} {s5 : Int32} (h6 : s5 = (0 : Int32) → mi_W d 122 131 [some (.ref l1), some (.int l2), some (.ref l3), some (.int l4)] [] (n, sl, f) Q) (h7 : ¬ (s5 = (0 : Int32)) → mi_W d 122 129 [some (.ref l1), some (.int l2), some (.ref l3), some (.int l4)] [] (n, sl, f) Q) : mi_W d 122 126 [some (.ref l1), some (.int l2), some (.ref l3), some (.int l4)] [.int s5] (n, sl, f) Q := by
  exact w_ifeq cd_122_126 (by decide) h6 h7
theorem b_122_129 {d : Nat} {Q : (Option Value ⊕ Nat) → mi_H → Prop} (n sl : Nat) (f : Nat → mi_C) {l1 : Nat} {l2 : Int32} {l3 : Nat} {l4 : Int32} (h5 : Q (.inl (some (.int 1))) (n, sl, f)) : mi_W d 122 129 [some (.ref l1), some (.int l2), some (.ref l3), some (.int l4)] [] (n, sl, f) Q := by
  refine w_iconst (v := 1) cd_122_129 (by decide) ?_
  exact w_ireturn_z cd_122_130 (by decide +kernel) (by decide) h5
theorem b_122_131 {d : Nat} {Q : (Option Value ⊕ Nat) → mi_H → Prop} (n sl : Nat) (f : Nat → mi_C) {l1 : Nat} {l2 : Int32} {l3 : Nat} {l4 : Int32} (h5 : mi_W d 122 93 [some (.ref l1), some (.int l2), some (.ref l3), some (.int (l4 + 1))] [] (n, sl, f) Q) : mi_W d 122 131 [some (.ref l1), some (.int l2), some (.ref l3), some (.int l4)] [] (n, sl, f) Q := by
  refine w_iinc (v := 1) (ls' := [some (.ref l1), some (.int l2), some (.ref l3), some (.int (l4 + 1))]) cd_122_131 rfl (by decide) rfl ?_
  exact w_goto cd_122_134 (by decide) h5
theorem b_122_137 {d : Nat} {Q : (Option Value ⊕ Nat) → mi_H → Prop} (n sl : Nat) (f : Nat → mi_C) {l1 : Nat} {l2 : Int32} {l3 : Nat} {l4 : Int32} {fs5 : List Value} {x8 : Nat} (m10 i10 : Nat) (g10 : Nat → Int32) (h6 : f l1 = .inr (11, fs5)) (h7 : l1 < n) (h9 : fs5[5]? = some (.ref x8)) (h11 : f x8 = .inl (0, m10, .inl g10)) (h12 : x8 < n ∨ x8 = mi_SC) (h13 : mi_ix l2 m10 i10) (h14 : (g10 i10) = ((-1)) → mi_W d 122 149 [some (.ref l1), some (.int l2), some (.ref l3), some (.int l4)] [] (n, sl, f) Q) (h15 : ¬ ((g10 i10) = ((-1))) → mi_W d 122 147 [some (.ref l1), some (.int l2), some (.ref l3), some (.int l4)] [] (n, sl, f) Q) : mi_W d 122 137 [some (.ref l1), some (.int l2), some (.ref l3), some (.int l4)] [] (n, sl, f) Q := by
  refine w_aload_n cd_122_137 rfl ?_
  refine w_getfield cd_122_138 (show mt_f 11 24 = some (11, 5) by decide +kernel) h6 h7 h9 ?_
  refine w_iload_n cd_122_141 rfl ?_
  refine w_iaload cd_122_142 h11 h12 h13 ?_
  refine w_iconst (v := (-1)) cd_122_143 (by decide) ?_
  exact w_if_icmpeq cd_122_144 (by decide) h14 h15
theorem b_122_147 {d : Nat} {Q : (Option Value ⊕ Nat) → mi_H → Prop} (n sl : Nat) (f : Nat → mi_C) {l1 : Nat} {l2 : Int32} {l3 : Nat} {l4 : Int32} (h5 : Q (.inl (some (.int 0))) (n, sl, f)) : mi_W d 122 147 [some (.ref l1), some (.int l2), some (.ref l3), some (.int l4)] [] (n, sl, f) Q := by
  refine w_iconst (v := 0) cd_122_147 (by decide) ?_
  exact w_ireturn_z cd_122_148 (by decide +kernel) (by decide) h5
theorem b_122_149 {d : Nat} {Q : (Option Value ⊕ Nat) → mi_H → Prop} (n sl : Nat) (f : Nat → mi_C) {l1 : Nat} {l2 : Int32} {l3 : Nat} {l4 : Int32} {fs5 : List Value} {x8 : Nat} (m10 i10 : Nat) (g10 : Nat → Int32) {fs14 : List Value} {x17 : Nat} {fs19 : List Value} {x22 : Nat} {fs24 : List Value} {x27 : Int32} (m29 i29 : Nat) (g29 : Nat → Int64) {fs33 : List Value} (h6 : f l1 = .inr (11, fs5)) (h7 : l1 < n) (h9 : fs5[5]? = some (.ref x8)) (h11 : f x8 = .inl (0, m10, .inl g10)) (h12 : x8 < n) (h13 : mi_ix l2 m10 i10) (h15 : (va_up f x8 (.inl (0, m10, .inl (upd g10 i10 ((-2)))))) l1 = .inr (11, fs14)) (h16 : l1 < n) (h18 : fs14[0]? = some (.ref x17)) (h20 : (va_up f x8 (.inl (0, m10, .inl (upd g10 i10 ((-2)))))) x17 = .inr (2, fs19)) (h21 : x17 < n) (h23 : fs19[9]? = some (.ref x22)) (h25 : (va_up f x8 (.inl (0, m10, .inl (upd g10 i10 ((-2)))))) l3 = .inr (9, fs24)) (h26 : l3 < n) (h28 : fs24[0]? = some (.int x27)) (h30 : (va_up f x8 (.inl (0, m10, .inl (upd g10 i10 ((-2)))))) x22 = .inl (3, m29, .inr (.inl g29))) (h31 : x22 < n) (h32 : mi_ix x27 m29 i29) (h34 : (va_up f x8 (.inl (0, m10, .inl (upd g10 i10 ((-2)))))) l1 = .inr (11, fs33)) (h35 : l1 < n) (h36 : mi_W d 124 0 (mi_en 6 [.ref l1, .int l2, .int 4, .long (g29 i29), .int (-1)]) [] (n, sl, (va_up f x8 (.inl (0, m10, .inl (upd g10 i10 ((-2))))))) (mi_Kc d 122 173 [some (.ref l1), some (.int l2), some (.ref l3), some (.int l4)] [] Q)) : mi_W (d + 1) 122 149 [some (.ref l1), some (.int l2), some (.ref l3), some (.int l4)] [] (n, sl, f) Q := by
  refine w_aload_n cd_122_149 rfl ?_
  refine w_getfield cd_122_150 (show mt_f 11 24 = some (11, 5) by decide +kernel) h6 h7 h9 ?_
  refine w_iload_n cd_122_153 rfl ?_
  refine w_bipush (v := (-2)) cd_122_154 (by decide) ?_
  refine w_iastore cd_122_156 h11 h12 h13 ?_
  refine w_aload_n cd_122_157 rfl ?_
  refine w_iload_n cd_122_158 rfl ?_
  refine w_iconst (v := 4) cd_122_159 (by decide) ?_
  refine w_aload_n cd_122_160 rfl ?_
  refine w_getfield cd_122_161 (show mt_f 11 41 = some (11, 0) by decide +kernel) h15 h16 h18 ?_
  refine w_getfield cd_122_164 (show mt_f 11 121 = some (2, 9) by decide +kernel) h20 h21 h23 ?_
  refine w_aload_n cd_122_167 rfl ?_
  refine w_getfield cd_122_168 (show mt_f 11 71 = some (9, 0) by decide +kernel) h25 h26 h28 ?_
  refine w_laload cd_122_171 h30 h31 h32 ?_
  refine w_iconst (v := (-1)) cd_122_172 (by decide) ?_
  exact w_invokevirtual cd_122_173 (show mt_m 11 103 = some (124, 0) by decide +kernel) (rest := []) rfl (as := [.ref l1, .int l2, .int 4, .long (g29 i29), .int (-1)]) rfl h34 (Or.inl h35) ⟨Nat.le_of_ble_eq_true rfl, Nat.le_of_ble_eq_true rfl, Nat.le_of_ble_eq_true rfl⟩ h36
theorem b_122_176 {d : Nat} {Q : (Option Value ⊕ Nat) → mi_H → Prop} (n sl : Nat) (f : Nat → mi_C) {l1 : Nat} {l2 : Int32} {l3 : Nat} {l4 : Int32} {s5 : Int32} (h6 : s5 = 0 ∨ s5 = 1) (h7 : Q (.inl (some (.int s5))) (n, sl, f)) : mi_W d 122 176 [some (.ref l1), some (.int l2), some (.ref l3), some (.int l4)] [.int s5] (n, sl, f) Q := by
  exact w_ireturn_z cd_122_176 (by decide +kernel) h6 h7
/-! MarloweHost$Machine.isReducible(LMarloweHost$Situation;)Z -/
set_option maxRecDepth 100000 in
theorem mq_123 : mt_q 123 = my_123 := rfl
set_option maxRecDepth 100000 in
theorem ci_123 : mt_inc 0 my_123.cd = true := by decide +kernel
theorem cd_123_0 : mt_cd 123 0 = some (.aload_n 0) := mt_cd_of (q := (0, .aload_n 0, 1)) mq_123 ci_123 (List.mem_of_getElem? (i := 0) rfl)
theorem cd_123_1 : mt_cd 123 1 = some (.getfield 18) := mt_cd_of (q := (1, .getfield 18, 3)) mq_123 ci_123 (List.mem_of_getElem? (i := 1) rfl)
theorem cd_123_4 : mt_cd 123 4 = some (.aload_n 1) := mt_cd_of (q := (4, .aload_n 1, 1)) mq_123 ci_123 (List.mem_of_getElem? (i := 2) rfl)
theorem cd_123_5 : mt_cd 123 5 = some (.getfield 94) := mt_cd_of (q := (5, .getfield 94, 3)) mq_123 ci_123 (List.mem_of_getElem? (i := 3) rfl)
theorem cd_123_8 : mt_cd 123 8 = some (.invokevirtual 97) := mt_cd_of (q := (8, .invokevirtual 97, 3)) mq_123 ci_123 (List.mem_of_getElem? (i := 4) rfl)
theorem cd_123_11 : mt_cd 123 11 = some (.istore_n 2) := mt_cd_of (q := (11, .istore_n 2, 1)) mq_123 ci_123 (List.mem_of_getElem? (i := 5) rfl)
theorem cd_123_12 : mt_cd 123 12 = some (.iload_n 2) := mt_cd_of (q := (12, .iload_n 2, 1)) mq_123 ci_123 (List.mem_of_getElem? (i := 6) rfl)
theorem cd_123_13 : mt_cd 123 13 = some (.ifCond .ne 17) := mt_cd_of (q := (13, .ifCond .ne 17, 3)) mq_123 ci_123 (List.mem_of_getElem? (i := 7) rfl)
theorem cd_123_16 : mt_cd 123 16 = some (.aload_n 1) := mt_cd_of (q := (16, .aload_n 1, 1)) mq_123 ci_123 (List.mem_of_getElem? (i := 8) rfl)
theorem cd_123_17 : mt_cd 123 17 = some (.invokevirtual 103) := mt_cd_of (q := (17, .invokevirtual 103, 3)) mq_123 ci_123 (List.mem_of_getElem? (i := 9) rfl)
theorem cd_123_20 : mt_cd 123 20 = some (.iconst (-1)) := mt_cd_of (q := (20, .iconst (-1), 1)) mq_123 ci_123 (List.mem_of_getElem? (i := 10) rfl)
theorem cd_123_21 : mt_cd 123 21 = some (.if_icmp .eq 7) := mt_cd_of (q := (21, .if_icmp .eq 7, 3)) mq_123 ci_123 (List.mem_of_getElem? (i := 11) rfl)
theorem cd_123_24 : mt_cd 123 24 = some (.iconst 1) := mt_cd_of (q := (24, .iconst 1, 1)) mq_123 ci_123 (List.mem_of_getElem? (i := 12) rfl)
theorem cd_123_25 : mt_cd 123 25 = some (.goto 4) := mt_cd_of (q := (25, .goto 4, 3)) mq_123 ci_123 (List.mem_of_getElem? (i := 13) rfl)
theorem cd_123_28 : mt_cd 123 28 = some (.iconst 0) := mt_cd_of (q := (28, .iconst 0, 1)) mq_123 ci_123 (List.mem_of_getElem? (i := 14) rfl)
theorem cd_123_29 : mt_cd 123 29 = some (.ireturn) := mt_cd_of (q := (29, .ireturn, 1)) mq_123 ci_123 (List.mem_of_getElem? (i := 15) rfl)
theorem cd_123_30 : mt_cd 123 30 = some (.iload_n 2) := mt_cd_of (q := (30, .iload_n 2, 1)) mq_123 ci_123 (List.mem_of_getElem? (i := 16) rfl)
theorem cd_123_31 : mt_cd 123 31 = some (.iconst 5) := mt_cd_of (q := (31, .iconst 5, 1)) mq_123 ci_123 (List.mem_of_getElem? (i := 17) rfl)
theorem cd_123_32 : mt_cd 123 32 = some (.if_icmp .ne 23) := mt_cd_of (q := (32, .if_icmp .ne 23, 3)) mq_123 ci_123 (List.mem_of_getElem? (i := 18) rfl)
theorem cd_123_35 : mt_cd 123 35 = some (.aload_n 0) := mt_cd_of (q := (35, .aload_n 0, 1)) mq_123 ci_123 (List.mem_of_getElem? (i := 19) rfl)
theorem cd_123_36 : mt_cd 123 36 = some (.getfield 18) := mt_cd_of (q := (36, .getfield 18, 3)) mq_123 ci_123 (List.mem_of_getElem? (i := 20) rfl)
theorem cd_123_39 : mt_cd 123 39 = some (.getfield 107) := mt_cd_of (q := (39, .getfield 107, 3)) mq_123 ci_123 (List.mem_of_getElem? (i := 21) rfl)
theorem cd_123_42 : mt_cd 123 42 = some (.aload_n 1) := mt_cd_of (q := (42, .aload_n 1, 1)) mq_123 ci_123 (List.mem_of_getElem? (i := 22) rfl)
theorem cd_123_43 : mt_cd 123 43 = some (.getfield 94) := mt_cd_of (q := (43, .getfield 94, 3)) mq_123 ci_123 (List.mem_of_getElem? (i := 23) rfl)
theorem cd_123_46 : mt_cd 123 46 = some (.laload) := mt_cd_of (q := (46, .laload, 1)) mq_123 ci_123 (List.mem_of_getElem? (i := 24) rfl)
theorem cd_123_47 : mt_cd 123 47 = some (.aload_n 1) := mt_cd_of (q := (47, .aload_n 1, 1)) mq_123 ci_123 (List.mem_of_getElem? (i := 25) rfl)
theorem cd_123_48 : mt_cd 123 48 = some (.getfield 45) := mt_cd_of (q := (48, .getfield 45, 3)) mq_123 ci_123 (List.mem_of_getElem? (i := 26) rfl)
theorem cd_123_51 : mt_cd 123 51 = some (.lcmp) := mt_cd_of (q := (51, .lcmp, 1)) mq_123 ci_123 (List.mem_of_getElem? (i := 27) rfl)
theorem cd_123_52 : mt_cd 123 52 = some (.ifCond .gt 7) := mt_cd_of (q := (52, .ifCond .gt 7, 3)) mq_123 ci_123 (List.mem_of_getElem? (i := 28) rfl)
theorem cd_123_55 : mt_cd 123 55 = some (.iconst 1) := mt_cd_of (q := (55, .iconst 1, 1)) mq_123 ci_123 (List.mem_of_getElem? (i := 29) rfl)
theorem cd_123_56 : mt_cd 123 56 = some (.goto 4) := mt_cd_of (q := (56, .goto 4, 3)) mq_123 ci_123 (List.mem_of_getElem? (i := 30) rfl)
theorem cd_123_59 : mt_cd 123 59 = some (.iconst 0) := mt_cd_of (q := (59, .iconst 0, 1)) mq_123 ci_123 (List.mem_of_getElem? (i := 31) rfl)
theorem cd_123_60 : mt_cd 123 60 = some (.ireturn) := mt_cd_of (q := (60, .ireturn, 1)) mq_123 ci_123 (List.mem_of_getElem? (i := 32) rfl)
theorem b_123_0 {d : Nat} {Q : (Option Value ⊕ Nat) → mi_H → Prop} (n sl : Nat) (f : Nat → mi_C) {l1 : Nat} {l2 : Nat} {o3 : Option Value} {fs4 : List Value} {x7 : Nat} {fs9 : List Value} {x12 : Int32} {fs14 : List Value} (h5 : f l1 = .inr (7, fs4)) (h6 : l1 < n) (h8 : fs4[0]? = some (.ref x7)) (h10 : f l2 = .inr (9, fs9)) (h11 : l2 < n) (h13 : fs9[0]? = some (.int x12)) (h15 : f x7 = .inr (2, fs14)) (h16 : x7 < n) (h17 : mi_W d 79 0 (mi_en 2 [.ref x7, .int x12]) [] (n, sl, f) (mi_Kc d 123 8 [some (.ref l1), some (.ref l2), o3] [] Q)) : mi_W (d + 1) 123 0 [some (.ref l1), some (.ref l2), o3] [] (n, sl, f) Q := by
  refine w_aload_n cd_123_0 rfl ?_
  refine w_getfield cd_123_1 (show mt_f 7 18 = some (7, 0) by decide +kernel) h5 h6 h8 ?_
  refine w_aload_n cd_123_4 rfl ?_
  refine w_getfield cd_123_5 (show mt_f 7 94 = some (9, 0) by decide +kernel) h10 h11 h13 ?_
  exact w_invokevirtual cd_123_8 (show mt_m 7 97 = some (79, 0) by decide +kernel) (rest := []) rfl (as := [.ref x7, .int x12]) rfl h15 (Or.inl h16) ⟨Nat.le_of_ble_eq_true rfl, Nat.le_of_ble_eq_true rfl, Nat.le_of_ble_eq_true rfl⟩ h17
theorem b_123_11 {d : Nat} {Q : (Option Value ⊕ Nat) → mi_H → Prop} (n sl : Nat) (f : Nat → mi_C) {l1 : Nat} {l2 : Nat} {o3 : Option Value} {s4 : Int32} (h5 : ¬ s4 = (0 : Int32) → mi_W d 123 30 [some (.ref l1), some (.ref l2), some (.int s4)] [] (n, sl, f) Q) (h6 : ¬ (¬ s4 = (0 : Int32)) → mi_W d 123 16 [some (.ref l1), some (.ref l2), some (.int s4)] [] (n, sl, f) Q) : mi_W d 123 11 [some (.ref l1), some (.ref l2), o3] [.int s4] (n, sl, f) Q := by
  refine w_istore_n (ls' := [some (.ref l1), some (.ref l2), some (.int s4)]) cd_123_11 (Nat.le_of_ble_eq_true rfl) rfl ?_
  refine w_iload_n cd_123_12 rfl ?_
  exact w_ifne cd_123_13 (by decide) h5 h6
theorem b_123_16 {d : Nat} {Q : (Option Value ⊕ Nat) → mi_H → Prop} (n sl : Nat) (f : Nat → mi_C) {l1 : Nat} {l2 : Nat} {l3 : Int32} {fs4 : List Value} (h5 : f l2 = .inr (9, fs4)) (h6 : l2 < n) (h7 : mi_W d 82 0 (mi_en 2 [.ref l2]) [] (n, sl, f) (mi_Kc d 123 17 [some (.ref l1), some (.ref l2), some (.int l3)] [] Q)) : mi_W (d + 1) 123 16 [some (.ref l1), some (.ref l2), some (.int l3)] [] (n, sl, f) Q := by
  refine w_aload_n cd_123_16 rfl ?_
  exact w_invokevirtual cd_123_17 (show mt_m 7 103 = some (82, 0) by decide +kernel) (rest := []) rfl (as := [.ref l2]) rfl h5 (Or.inl h6) ⟨Nat.le_of_ble_eq_true rfl, Nat.le_of_ble_eq_true rfl, Nat.le_of_ble_eq_true rfl⟩ h7
theorem b_123_20 {d : Nat} {Q : (Option Value ⊕ Nat) → mi_H → Prop} (n sl : Nat) (f : Nat → mi_C) {l1 : Nat} {l2 : Nat} {l3 : Int32} {s4 : Int32} (h5 : s4 = ((-1)) → mi_W d 123 28 [some (.ref l1), some (.ref l2), some (.int l3)] [] (n, sl, f) Q) (h6 : ¬ (s4 = ((-1))) → mi_W d 123 24 [some (.ref l1), some (.ref l2), some (.int l3)] [] (n, sl, f) Q) : mi_W d 123 20 [some (.ref l1), some (.ref l2), some (.int l3)] [.int s4] (n, sl, f) Q := by
  refine w_iconst (v := (-1)) cd_123_20 (by decide) ?_
  exact w_if_icmpeq cd_123_21 (by decide) h5 h6
theorem b_123_24 {d : Nat} {Q : (Option Value ⊕ Nat) → mi_H → Prop} (n sl : Nat) (f : Nat → mi_C) {l1 : Nat} {l2 : Nat} {l3 : Int32} (h4 : mi_W d 123 29 [some (.ref l1), some (.ref l2), some (.int l3)] [.int 1] (n, sl, f) Q) : mi_W d 123 24 [some (.ref l1), some (.ref l2), some (.int l3)] [] (n, sl, f) Q := by
  refine w_iconst (v := 1) cd_123_24 (by decide) ?_
  exact w_goto cd_123_25 (by decide) h4
theorem b_123_28 {d : Nat} {Q : (Option Value ⊕ Nat) → mi_H → Prop} (n sl : Nat) (f : Nat → mi_C) {l1 : Nat} {l2 : Nat} {l3 : Int32} (h4 : mi_W d 123 29 [some (.ref l1), some (.ref l2), some (.int l3)] [.int 0] (n, sl, f) Q) : mi_W d 123 28 [some (.ref l1), some (.ref l2), some (.int l3)] [] (n, sl, f) Q := by
  refine w_iconst (v := 0) cd_123_28 (by decide) ?_
  exact h4
theorem b_123_29 {d : Nat} {Q : (Option Value ⊕ Nat) → mi_H → Prop} (n sl : Nat) (f : Nat → mi_C) {l1 : Nat} {l2 : Nat} {l3 : Int32} {s4 : Int32} (h5 : s4 = 0 ∨ s4 = 1) (h6 : Q (.inl (some (.int s4))) (n, sl, f)) : mi_W d 123 29 [some (.ref l1), some (.ref l2), some (.int l3)] [.int s4] (n, sl, f) Q := by
  exact w_ireturn_z cd_123_29 (by decide +kernel) h5 h6
theorem b_123_30 {d : Nat} {Q : (Option Value ⊕ Nat) → mi_H → Prop} (n sl : Nat) (f : Nat → mi_C) {l1 : Nat} {l2 : Nat} {l3 : Int32} (h4 : ¬ l3 = 5 → mi_W d 123 55 [some (.ref l1), some (.ref l2), some (.int l3)] [] (n, sl, f) Q) (h5 : ¬ (¬ l3 = 5) → mi_W d 123 35 [some (.ref l1), some (.ref l2), some (.int l3)] [] (n, sl, f) Q) : mi_W d 123 30 [some (.ref l1), some (.ref l2), some (.int l3)] [] (n, sl, f) Q := by
  refine w_iload_n cd_123_30 rfl ?_
  refine w_iconst (v := 5) cd_123_31 (by decide) ?_
  exact w_if_icmpne cd_123_32 (by decide) h4 h5
theorem b_123_35 {d : Nat} {Q : (Option Value ⊕ Nat) → mi_H → Prop} (n sl : Nat) (f : Nat → mi_C) {l1 : Nat} {l2 : Nat} {l3 : Int32} {fs4 : List Value} {x7 : Nat} {fs9 : List Value} {x12 : Nat} {fs14 : List Value} {x17 : Int32} (m19 i19 : Nat) (g19 : Nat → Int64) {fs23 : List Value} {x26 : Int64} (h5 : f l1 = .inr (7, fs4)) (h6 : l1 < n) (h8 : fs4[0]? = some (.ref x7)) (h10 : f x7 = .inr (2, fs9)) (h11 : x7 < n) (h13 : fs9[9]? = some (.ref x12)) (h15 : f l2 = .inr (9, fs14)) (h16 : l2 < n) (h18 : fs14[0]? = some (.int x17)) (h20 : f x12 = .inl (3, m19, .inr (.inl g19))) (h21 : x12 < n) (h22 : mi_ix x17 m19 i19) (h24 : f l2 = .inr (9, fs23)) (h25 : l2 < n) (h27 : fs23[1]? = some (.long x26)) (h28 : (0 : Int32) < (lg_cmp (g19 i19) x26) → mi_W d 123 59 [some (.ref l1), some (.ref l2), some (.int l3)] [] (n, sl, f) Q) (h29 : ¬ ((0 : Int32) < (lg_cmp (g19 i19) x26)) → mi_W d 123 55 [some (.ref l1), some (.ref l2), some (.int l3)] [] (n, sl, f) Q) : mi_W d 123 35 [some (.ref l1), some (.ref l2), some (.int l3)] [] (n, sl, f) Q := by
  refine w_aload_n cd_123_35 rfl ?_
  refine w_getfield cd_123_36 (show mt_f 7 18 = some (7, 0) by decide +kernel) h5 h6 h8 ?_
  refine w_getfield cd_123_39 (show mt_f 7 107 = some (2, 9) by decide +kernel) h10 h11 h13 ?_
  refine w_aload_n cd_123_42 rfl ?_
  refine w_getfield cd_123_43 (show mt_f 7 94 = some (9, 0) by decide +kernel) h15 h16 h18 ?_
  refine w_laload cd_123_46 h20 h21 h22 ?_
  refine w_aload_n cd_123_47 rfl ?_
  refine w_getfield cd_123_48 (show mt_f 7 45 = some (9, 1) by decide +kernel) h24 h25 h27 ?_
  refine w_lcmp cd_123_51 ?_
  exact w_ifgt cd_123_52 (by decide) h28 h29
theorem b_123_55 {d : Nat} {Q : (Option Value ⊕ Nat) → mi_H → Prop} (n sl : Nat) (f : Nat → mi_C) {l1 : Nat} {l2 : Nat} {l3 : Int32} (h4 : mi_W d 123 60 [some (.ref l1), some (.ref l2), some (.int l3)] [.int 1] (n, sl, f) Q) : mi_W d 123 55 [some (.ref l1), some (.ref l2), some (.int l3)] [] (n, sl, f) Q := by
  refine w_iconst (v := 1) cd_123_55 (by decide) ?_
  exact w_goto cd_123_56 (by decide) h4
theorem b_123_59 {d : Nat} {Q : (Option Value ⊕ Nat) → mi_H → Prop} (n sl : Nat) (f : Nat → mi_C) {l1 : Nat} {l2 : Nat} {l3 : Int32} (h4 : mi_W d 123 60 [some (.ref l1), some (.ref l2), some (.int l3)] [.int 0] (n, sl, f) Q) : mi_W d 123 59 [some (.ref l1), some (.ref l2), some (.int l3)] [] (n, sl, f) Q := by
  refine w_iconst (v := 0) cd_123_59 (by decide) ?_
  exact h4
theorem b_123_60 {d : Nat} {Q : (Option Value ⊕ Nat) → mi_H → Prop} (n sl : Nat) (f : Nat → mi_C) {l1 : Nat} {l2 : Nat} {l3 : Int32} {s4 : Int32} (h5 : s4 = 0 ∨ s4 = 1) (h6 : Q (.inl (some (.int s4))) (n, sl, f)) : mi_W d 123 60 [some (.ref l1), some (.ref l2), some (.int l3)] [.int s4] (n, sl, f) Q := by
  exact w_ireturn_z cd_123_60 (by decide +kernel) h5 h6
/-! MarloweHost$Analyser.setStep(IIJI)Z -/
set_option maxRecDepth 100000 in
theorem mq_124 : mt_q 124 = my_124 := rfl
set_option maxRecDepth 100000 in
theorem ci_124 : mt_inc 0 my_124.cd = true := by decide +kernel
theorem cd_124_0 : mt_cd 124 0 = some (.aload_n 0) := mt_cd_of (q := (0, .aload_n 0, 1)) mq_124 ci_124 (List.mem_of_getElem? (i := 0) rfl)
theorem cd_124_1 : mt_cd 124 1 = some (.getfield 31) := mt_cd_of (q := (1, .getfield 31, 3)) mq_124 ci_124 (List.mem_of_getElem? (i := 1) rfl)
theorem cd_124_4 : mt_cd 124 4 = some (.iload_n 1) := mt_cd_of (q := (4, .iload_n 1, 1)) mq_124 ci_124 (List.mem_of_getElem? (i := 2) rfl)
theorem cd_124_5 : mt_cd 124 5 = some (.iload_n 2) := mt_cd_of (q := (5, .iload_n 2, 1)) mq_124 ci_124 (List.mem_of_getElem? (i := 3) rfl)
theorem cd_124_6 : mt_cd 124 6 = some (.iastore) := mt_cd_of (q := (6, .iastore, 1)) mq_124 ci_124 (List.mem_of_getElem? (i := 4) rfl)
theorem cd_124_7 : mt_cd 124 7 = some (.aload_n 0) := mt_cd_of (q := (7, .aload_n 0, 1)) mq_124 ci_124 (List.mem_of_getElem? (i := 5) rfl)
theorem cd_124_8 : mt_cd 124 8 = some (.getfield 34) := mt_cd_of (q := (8, .getfield 34, 3)) mq_124 ci_124 (List.mem_of_getElem? (i := 6) rfl)
theorem cd_124_11 : mt_cd 124 11 = some (.iload_n 1) := mt_cd_of (q := (11, .iload_n 1, 1)) mq_124 ci_124 (List.mem_of_getElem? (i := 7) rfl)
theorem cd_124_12 : mt_cd 124 12 = some (.lload_n 3) := mt_cd_of (q := (12, .lload_n 3, 1)) mq_124 ci_124 (List.mem_of_getElem? (i := 8) rfl)
theorem cd_124_13 : mt_cd 124 13 = some (.lastore) := mt_cd_of (q := (13, .lastore, 1)) mq_124 ci_124 (List.mem_of_getElem? (i := 9) rfl)
theorem cd_124_14 : mt_cd 124 14 = some (.aload_n 0) := mt_cd_of (q := (14, .aload_n 0, 1)) mq_124 ci_124 (List.mem_of_getElem? (i := 10) rfl)
theorem cd_124_15 : mt_cd 124 15 = some (.getfield 38) := mt_cd_of (q := (15, .getfield 38, 3)) mq_124 ci_124 (List.mem_of_getElem? (i := 11) rfl)
theorem cd_124_18 : mt_cd 124 18 = some (.iload_n 1) := mt_cd_of (q := (18, .iload_n 1, 1)) mq_124 ci_124 (List.mem_of_getElem? (i := 12) rfl)
theorem cd_124_19 : mt_cd 124 19 = some (.iload 5) := mt_cd_of (q := (19, .iload 5, 2)) mq_124 ci_124 (List.mem_of_getElem? (i := 13) rfl)
theorem cd_124_21 : mt_cd 124 21 = some (.iastore) := mt_cd_of (q := (21, .iastore, 1)) mq_124 ci_124 (List.mem_of_getElem? (i := 14) rfl)
theorem cd_124_22 : mt_cd 124 22 = some (.iconst 1) := mt_cd_of (q := (22, .iconst 1, 1)) mq_124 ci_124 (List.mem_of_getElem? (i := 15) rfl)
theorem cd_124_23 : mt_cd 124 23 = some (.ireturn) := mt_cd_of (q := (23, .ireturn, 1)) mq_124 ci_124 (List.mem_of_getElem? (i := 16) rfl)
theorem b_124_0 {d : Nat} {Q : (Option Value ⊕ Nat) → mi_H → Prop} (n sl : Nat) (f : Nat → mi_C) {l1 : Nat} {l2 : Int32} {l3 : Int32} {l4 : Int64} {l5 : Int32} {fs6 : List Value} {x9 : Nat} (m11 i11 : Nat) (g11 : Nat → Int32) {fs15 : List Value} {x18 : Nat} (m20 i20 : Nat) (g20 : Nat → Int64) {fs24 : List Value} {x27 : Nat} (m29 i29 : Nat) (g29 : Nat → Int32) (h7 : f l1 = .inr (11, fs6)) (h8 : l1 < n) (h10 : fs6[7]? = some (.ref x9)) (h12 : f x9 = .inl (0, m11, .inl g11)) (h13 : x9 < n) (h14 : mi_ix l2 m11 i11) (h16 : (va_up f x9 (.inl (0, m11, .inl (upd g11 i11 l3)))) l1 = .inr (11, fs15)) (h17 : l1 < n) (h19 : fs15[8]? = some (.ref x18)) (h21 : (va_up f x9 (.inl (0, m11, .inl (upd g11 i11 l3)))) x18 = .inl (3, m20, .inr (.inl g20))) (h22 : x18 < n) (h23 : mi_ix l2 m20 i20) (h25 : (va_up (va_up f x9 (.inl (0, m11, .inl (upd g11 i11 l3)))) x18 (.inl (3, m20, .inr (.inl (vp_updL g20 i20 l4))))) l1 = .inr (11, fs24)) (h26 : l1 < n) (h28 : fs24[9]? = some (.ref x27)) (h30 : (va_up (va_up f x9 (.inl (0, m11, .inl (upd g11 i11 l3)))) x18 (.inl (3, m20, .inr (.inl (vp_updL g20 i20 l4))))) x27 = .inl (0, m29, .inl g29)) (h31 : x27 < n) (h32 : mi_ix l2 m29 i29) (h33 : Q (.inl (some (.int 1))) (n, sl, (va_up (va_up (va_up f x9 (.inl (0, m11, .inl (upd g11 i11 l3)))) x18 (.inl (3, m20, .inr (.inl (vp_updL g20 i20 l4))))) x27 (.inl (0, m29, .inl (upd g29 i29 l5)))))) : mi_W d 124 0 [some (.ref l1), some (.int l2), some (.int l3), some (.long l4), none, some (.int l5)] [] (n, sl, f) Q := by
  refine w_aload_n cd_124_0 rfl ?_
  refine w_getfield cd_124_1 (show mt_f 11 31 = some (11, 7) by decide +kernel) h7 h8 h10 ?_
  refine w_iload_n cd_124_4 rfl ?_
  refine w_iload_n cd_124_5 rfl ?_
  refine w_iastore cd_124_6 h12 h13 h14 ?_
  refine w_aload_n cd_124_7 rfl ?_
  refine w_getfield cd_124_8 (show mt_f 11 34 = some (11, 8) by decide +kernel) h16 h17 h19 ?_
  refine w_iload_n cd_124_11 rfl ?_
  refine w_lload_n cd_124_12 rfl ?_
  refine w_lastore cd_124_13 h21 h22 h23 ?_
  refine w_aload_n cd_124_14 rfl ?_
  refine w_getfield cd_124_15 (show mt_f 11 38 = some (11, 9) by decide +kernel) h25 h26 h28 ?_
  refine w_iload_n cd_124_18 rfl ?_
  refine w_iload cd_124_19 rfl ?_
  refine w_iastore cd_124_21 h30 h31 h32 ?_
  refine w_iconst (v := 1) cd_124_22 (by decide) ?_
  exact w_ireturn_z cd_124_23 (by decide +kernel) (by decide) h33
/-! MarloweHost$Analyser.findStepFor(II)Z -/
set_option maxRecDepth 100000 in
theorem mq_125 : mt_q 125 = my_125 := rfl
set_option maxRecDepth 100000 in
theorem ci_125 : mt_inc 0 my_125.cd = true := by decide +kernel
theorem cd_125_0 : mt_cd 125 0 = some (.aload_n 0) := mt_cd_of (q := (0, .aload_n 0, 1)) mq_125 ci_125 (List.mem_append_left _ (show _ ∈ my_125_0 from List.mem_of_getElem? (i := 0) rfl))
theorem cd_125_1 : mt_cd 125 1 = some (.getfield 20) := mt_cd_of (q := (1, .getfield 20, 3)) mq_125 ci_125 (List.mem_append_left _ (show _ ∈ my_125_0 from List.mem_of_getElem? (i := 1) rfl))
theorem cd_125_4 : mt_cd 125 4 = some (.iload_n 1) := mt_cd_of (q := (4, .iload_n 1, 1)) mq_125 ci_125 (List.mem_append_left _ (show _ ∈ my_125_0 from List.mem_of_getElem? (i := 2) rfl))
theorem cd_125_5 : mt_cd 125 5 = some (.aaload) := mt_cd_of (q := (5, .aaload, 1)) mq_125 ci_125 (List.mem_append_left _ (show _ ∈ my_125_0 from List.mem_of_getElem? (i := 3) rfl))
theorem cd_125_6 : mt_cd 125 6 = some (.astore_n 3) := mt_cd_of (q := (6, .astore_n 3, 1)) mq_125 ci_125 (List.mem_append_left _ (show _ ∈ my_125_0 from List.mem_of_getElem? (i := 4) rfl))
theorem cd_125_7 : mt_cd 125 7 = some (.aload_n 0) := mt_cd_of (q := (7, .aload_n 0, 1)) mq_125 ci_125 (List.mem_append_left _ (show _ ∈ my_125_0 from List.mem_of_getElem? (i := 5) rfl))
theorem cd_125_8 : mt_cd 125 8 = some (.getfield 60) := mt_cd_of (q := (8, .getfield 60, 3)) mq_125 ci_125 (List.mem_append_left _ (show _ ∈ my_125_0 from List.mem_of_getElem? (i := 6) rfl))
theorem cd_125_11 : mt_cd 125 11 = some (.aload_n 3) := mt_cd_of (q := (11, .aload_n 3, 1)) mq_125 ci_125 (List.mem_append_left _ (show _ ∈ my_125_0 from List.mem_of_getElem? (i := 7) rfl))
theorem cd_125_12 : mt_cd 125 12 = some (.aload_n 3) := mt_cd_of (q := (12, .aload_n 3, 1)) mq_125 ci_125 (List.mem_append_left _ (show _ ∈ my_125_0 from List.mem_of_getElem? (i := 8) rfl))
theorem cd_125_13 : mt_cd 125 13 = some (.getfield 124) := mt_cd_of (q := (13, .getfield 124, 3)) mq_125 ci_125 (List.mem_append_left _ (show _ ∈ my_125_0 from List.mem_of_getElem? (i := 9) rfl))
theorem cd_125_16 : mt_cd 125 16 = some (.aload_n 3) := mt_cd_of (q := (16, .aload_n 3, 1)) mq_125 ci_125 (List.mem_append_left _ (show _ ∈ my_125_0 from List.mem_of_getElem? (i := 10) rfl))
theorem cd_125_17 : mt_cd 125 17 = some (.getfield 124) := mt_cd_of (q := (17, .getfield 124, 3)) mq_125 ci_125 (List.mem_append_left _ (show _ ∈ my_125_0 from List.mem_of_getElem? (i := 11) rfl))
theorem cd_125_20 : mt_cd 125 20 = some (.invokevirtual 128) := mt_cd_of (q := (20, .invokevirtual 128, 3)) mq_125 ci_125 (List.mem_append_left _ (show _ ∈ my_125_0 from List.mem_of_getElem? (i := 12) rfl))
theorem cd_125_23 : mt_cd 125 23 = some (.aload_n 0) := mt_cd_of (q := (23, .aload_n 0, 1)) mq_125 ci_125 (List.mem_append_left _ (show _ ∈ my_125_0 from List.mem_of_getElem? (i := 13) rfl))
theorem cd_125_24 : mt_cd 125 24 = some (.getfield 41) := mt_cd_of (q := (24, .getfield 41, 3)) mq_125 ci_125 (List.mem_append_left _ (show _ ∈ my_125_0 from List.mem_of_getElem? (i := 14) rfl))
theorem cd_125_27 : mt_cd 125 27 = some (.getfield 132) := mt_cd_of (q := (27, .getfield 132, 3)) mq_125 ci_125 (List.mem_append_left _ (show _ ∈ my_125_0 from List.mem_of_getElem? (i := 15) rfl))
theorem cd_125_30 : mt_cd 125 30 = some (.iload_n 2) := mt_cd_of (q := (30, .iload_n 2, 1)) mq_125 ci_125 (List.mem_append_left _ (show _ ∈ my_125_0 from List.mem_of_getElem? (i := 16) rfl))
theorem cd_125_31 : mt_cd 125 31 = some (.iaload) := mt_cd_of (q := (31, .iaload, 1)) mq_125 ci_125 (List.mem_append_left _ (show _ ∈ my_125_0 from List.mem_of_getElem? (i := 17) rfl))
theorem cd_125_32 : mt_cd 125 32 = some (.istore 4) := mt_cd_of (q := (32, .istore 4, 2)) mq_125 ci_125 (List.mem_append_left _ (show _ ∈ my_125_0 from List.mem_of_getElem? (i := 18) rfl))
theorem cd_125_34 : mt_cd 125 34 = some (.iload 4) := mt_cd_of (q := (34, .iload 4, 2)) mq_125 ci_125 (List.mem_append_left _ (show _ ∈ my_125_0 from List.mem_of_getElem? (i := 19) rfl))
theorem cd_125_36 : mt_cd 125 36 = some (.bipush 9) := mt_cd_of (q := (36, .bipush 9, 2)) mq_125 ci_125 (List.mem_append_left _ (show _ ∈ my_125_0 from List.mem_of_getElem? (i := 20) rfl))
theorem cd_125_38 : mt_cd 125 38 = some (.if_icmp .ne 54) := mt_cd_of (q := (38, .if_icmp .ne 54, 3)) mq_125 ci_125 (List.mem_append_left _ (show _ ∈ my_125_0 from List.mem_of_getElem? (i := 21) rfl))
theorem cd_125_41 : mt_cd 125 41 = some (.aload_n 0) := mt_cd_of (q := (41, .aload_n 0, 1)) mq_125 ci_125 (List.mem_append_left _ (show _ ∈ my_125_0 from List.mem_of_getElem? (i := 22) rfl))
theorem cd_125_42 : mt_cd 125 42 = some (.getfield 28) := mt_cd_of (q := (42, .getfield 28, 3)) mq_125 ci_125 (List.mem_append_left _ (show _ ∈ my_125_0 from List.mem_of_getElem? (i := 23) rfl))
theorem cd_125_45 : mt_cd 125 45 = some (.iload_n 1) := mt_cd_of (q := (45, .iload_n 1, 1)) mq_125 ci_125 (List.mem_append_left _ (show _ ∈ my_125_0 from List.mem_of_getElem? (i := 24) rfl))
theorem cd_125_46 : mt_cd 125 46 = some (.iaload) := mt_cd_of (q := (46, .iaload, 1)) mq_125 ci_125 (List.mem_append_left _ (show _ ∈ my_125_0 from List.mem_of_getElem? (i := 25) rfl))
theorem cd_125_47 : mt_cd 125 47 = some (.aload_n 0) := mt_cd_of (q := (47, .aload_n 0, 1)) mq_125 ci_125 (List.mem_append_left _ (show _ ∈ my_125_0 from List.mem_of_getElem? (i := 26) rfl))
theorem cd_125_48 : mt_cd 125 48 = some (.getfield 41) := mt_cd_of (q := (48, .getfield 41, 3)) mq_125 ci_125 (List.mem_append_left _ (show _ ∈ my_125_0 from List.mem_of_getElem? (i := 27) rfl))
theorem cd_125_51 : mt_cd 125 51 = some (.iload_n 2) := mt_cd_of (q := (51, .iload_n 2, 1)) mq_125 ci_125 (List.mem_append_left _ (show _ ∈ my_125_0 from List.mem_of_getElem? (i := 28) rfl))
theorem cd_125_52 : mt_cd 125 52 = some (.invokevirtual 135) := mt_cd_of (q := (52, .invokevirtual 135, 3)) mq_125 ci_125 (List.mem_append_left _ (show _ ∈ my_125_0 from List.mem_of_getElem? (i := 29) rfl))
theorem cd_125_55 : mt_cd 125 55 = some (.if_icmp .ge 37) := mt_cd_of (q := (55, .if_icmp .ge 37, 3)) mq_125 ci_125 (List.mem_append_left _ (show _ ∈ my_125_0 from List.mem_of_getElem? (i := 30) rfl))
theorem cd_125_58 : mt_cd 125 58 = some (.aload_n 0) := mt_cd_of (q := (58, .aload_n 0, 1)) mq_125 ci_125 (List.mem_append_left _ (show _ ∈ my_125_0 from List.mem_of_getElem? (i := 31) rfl))
theorem cd_125_59 : mt_cd 125 59 = some (.getfield 28) := mt_cd_of (q := (59, .getfield 28, 3)) mq_125 ci_125 (List.mem_append_left _ (show _ ∈ my_125_0 from List.mem_of_getElem? (i := 32) rfl))
theorem cd_125_62 : mt_cd 125 62 = some (.iload_n 1) := mt_cd_of (q := (62, .iload_n 1, 1)) mq_125 ci_125 (List.mem_append_left _ (show _ ∈ my_125_0 from List.mem_of_getElem? (i := 33) rfl))
theorem cd_125_63 : mt_cd 125 63 = some (.dup2) := mt_cd_of (q := (63, .dup2, 1)) mq_125 ci_125 (List.mem_append_left _ (show _ ∈ my_125_0 from List.mem_of_getElem? (i := 34) rfl))
theorem cd_125_64 : mt_cd 125 64 = some (.iaload) := mt_cd_of (q := (64, .iaload, 1)) mq_125 ci_125 (List.mem_append_left _ (show _ ∈ my_125_0 from List.mem_of_getElem? (i := 35) rfl))
theorem cd_125_65 : mt_cd 125 65 = some (.iconst 1) := mt_cd_of (q := (65, .iconst 1, 1)) mq_125 ci_125 (List.mem_append_left _ (show _ ∈ my_125_0 from List.mem_of_getElem? (i := 36) rfl))
theorem cd_125_66 : mt_cd 125 66 = some (.iadd) := mt_cd_of (q := (66, .iadd, 1)) mq_125 ci_125 (List.mem_append_left _ (show _ ∈ my_125_0 from List.mem_of_getElem? (i := 37) rfl))
theorem cd_125_67 : mt_cd 125 67 = some (.iastore) := mt_cd_of (q := (67, .iastore, 1)) mq_125 ci_125 (List.mem_append_left _ (show _ ∈ my_125_0 from List.mem_of_getElem? (i := 38) rfl))
theorem cd_125_68 : mt_cd 125 68 = some (.aload_n 0) := mt_cd_of (q := (68, .aload_n 0, 1)) mq_125 ci_125 (List.mem_append_left _ (show _ ∈ my_125_0 from List.mem_of_getElem? (i := 39) rfl))
theorem cd_125_69 : mt_cd 125 69 = some (.iload_n 1) := mt_cd_of (q := (69, .iload_n 1, 1)) mq_125 ci_125 (List.mem_append_left _ (show _ ∈ my_125_0 from List.mem_of_getElem? (i := 40) rfl))
theorem cd_125_70 : mt_cd 125 70 = some (.iconst 2) := mt_cd_of (q := (70, .iconst 2, 1)) mq_125 ci_125 (List.mem_append_left _ (show _ ∈ my_125_0 from List.mem_of_getElem? (i := 41) rfl))
theorem cd_125_71 : mt_cd 125 71 = some (.aload_n 0) := mt_cd_of (q := (71, .aload_n 0, 1)) mq_125 ci_125 (List.mem_append_left _ (show _ ∈ my_125_0 from List.mem_of_getElem? (i := 42) rfl))
theorem cd_125_72 : mt_cd 125 72 = some (.getfield 41) := mt_cd_of (q := (72, .getfield 41, 3)) mq_125 ci_125 (List.mem_append_left _ (show _ ∈ my_125_0 from List.mem_of_getElem? (i := 43) rfl))
theorem cd_125_75 : mt_cd 125 75 = some (.iload_n 2) := mt_cd_of (q := (75, .iload_n 2, 1)) mq_125 ci_125 (List.mem_append_left _ (show _ ∈ my_125_0 from List.mem_of_getElem? (i := 44) rfl))
theorem cd_125_76 : mt_cd 125 76 = some (.aload_n 0) := mt_cd_of (q := (76, .aload_n 0, 1)) mq_125 ci_125 (List.mem_append_left _ (show _ ∈ my_125_0 from List.mem_of_getElem? (i := 45) rfl))
theorem cd_125_77 : mt_cd 125 77 = some (.getfield 28) := mt_cd_of (q := (77, .getfield 28, 3)) mq_125 ci_125 (List.mem_append_left _ (show _ ∈ my_125_0 from List.mem_of_getElem? (i := 46) rfl))
theorem cd_125_80 : mt_cd 125 80 = some (.iload_n 1) := mt_cd_of (q := (80, .iload_n 1, 1)) mq_125 ci_125 (List.mem_append_left _ (show _ ∈ my_125_0 from List.mem_of_getElem? (i := 47) rfl))
theorem cd_125_81 : mt_cd 125 81 = some (.iaload) := mt_cd_of (q := (81, .iaload, 1)) mq_125 ci_125 (List.mem_append_left _ (show _ ∈ my_125_0 from List.mem_of_getElem? (i := 48) rfl))
theorem cd_125_82 : mt_cd 125 82 = some (.iconst 1) := mt_cd_of (q := (82, .iconst 1, 1)) mq_125 ci_125 (List.mem_append_left _ (show _ ∈ my_125_0 from List.mem_of_getElem? (i := 49) rfl))
theorem cd_125_83 : mt_cd 125 83 = some (.isub) := mt_cd_of (q := (83, .isub, 1)) mq_125 ci_125 (List.mem_append_left _ (show _ ∈ my_125_0 from List.mem_of_getElem? (i := 50) rfl))
theorem cd_125_84 : mt_cd 125 84 = some (.invokevirtual 138) := mt_cd_of (q := (84, .invokevirtual 138, 3)) mq_125 ci_125 (List.mem_append_left _ (show _ ∈ my_125_0 from List.mem_of_getElem? (i := 51) rfl))
theorem cd_125_87 : mt_cd 125 87 = some (.iload_n 2) := mt_cd_of (q := (87, .iload_n 2, 1)) mq_125 ci_125 (List.mem_append_left _ (show _ ∈ my_125_0 from List.mem_of_getElem? (i := 52) rfl))
theorem cd_125_88 : mt_cd 125 88 = some (.invokevirtual 103) := mt_cd_of (q := (88, .invokevirtual 103, 3)) mq_125 ci_125 (List.mem_append_left _ (show _ ∈ my_125_0 from List.mem_of_getElem? (i := 53) rfl))
theorem cd_125_91 : mt_cd 125 91 = some (.ireturn) := mt_cd_of (q := (91, .ireturn, 1)) mq_125 ci_125 (List.mem_append_left _ (show _ ∈ my_125_0 from List.mem_of_getElem? (i := 54) rfl))
theorem cd_125_92 : mt_cd 125 92 = some (.aload_n 0) := mt_cd_of (q := (92, .aload_n 0, 1)) mq_125 ci_125 (List.mem_append_left _ (show _ ∈ my_125_0 from List.mem_of_getElem? (i := 55) rfl))
theorem cd_125_93 : mt_cd 125 93 = some (.getfield 28) := mt_cd_of (q := (93, .getfield 28, 3)) mq_125 ci_125 (List.mem_append_left _ (show _ ∈ my_125_0 from List.mem_of_getElem? (i := 56) rfl))
theorem cd_125_96 : mt_cd 125 96 = some (.iload_n 1) := mt_cd_of (q := (96, .iload_n 1, 1)) mq_125 ci_125 (List.mem_append_left _ (show _ ∈ my_125_0 from List.mem_of_getElem? (i := 57) rfl))
theorem cd_125_97 : mt_cd 125 97 = some (.iconst 0) := mt_cd_of (q := (97, .iconst 0, 1)) mq_125 ci_125 (List.mem_append_left _ (show _ ∈ my_125_0 from List.mem_of_getElem? (i := 58) rfl))
theorem cd_125_98 : mt_cd 125 98 = some (.iastore) := mt_cd_of (q := (98, .iastore, 1)) mq_125 ci_125 (List.mem_append_left _ (show _ ∈ my_125_0 from List.mem_of_getElem? (i := 59) rfl))
theorem cd_125_99 : mt_cd 125 99 = some (.aload_n 0) := mt_cd_of (q := (99, .aload_n 0, 1)) mq_125 ci_125 (List.mem_append_right _ ((show _ ∈ my_125_1 from List.mem_of_getElem? (i := 0) rfl)))
theorem cd_125_100 : mt_cd 125 100 = some (.getfield 24) := mt_cd_of (q := (100, .getfield 24, 3)) mq_125 ci_125 (List.mem_append_right _ ((show _ ∈ my_125_1 from List.mem_of_getElem? (i := 1) rfl)))
theorem cd_125_103 : mt_cd 125 103 = some (.iload_n 1) := mt_cd_of (q := (103, .iload_n 1, 1)) mq_125 ci_125 (List.mem_append_right _ ((show _ ∈ my_125_1 from List.mem_of_getElem? (i := 2) rfl)))
theorem cd_125_104 : mt_cd 125 104 = some (.aload_n 0) := mt_cd_of (q := (104, .aload_n 0, 1)) mq_125 ci_125 (List.mem_append_right _ ((show _ ∈ my_125_1 from List.mem_of_getElem? (i := 3) rfl)))
theorem cd_125_105 : mt_cd 125 105 = some (.getfield 41) := mt_cd_of (q := (105, .getfield 41, 3)) mq_125 ci_125 (List.mem_append_right _ ((show _ ∈ my_125_1 from List.mem_of_getElem? (i := 4) rfl)))
theorem cd_125_108 : mt_cd 125 108 = some (.getfield 142) := mt_cd_of (q := (108, .getfield 142, 3)) mq_125 ci_125 (List.mem_append_right _ ((show _ ∈ my_125_1 from List.mem_of_getElem? (i := 5) rfl)))
theorem cd_125_111 : mt_cd 125 111 = some (.iload_n 2) := mt_cd_of (q := (111, .iload_n 2, 1)) mq_125 ci_125 (List.mem_append_right _ ((show _ ∈ my_125_1 from List.mem_of_getElem? (i := 6) rfl)))
theorem cd_125_112 : mt_cd 125 112 = some (.iaload) := mt_cd_of (q := (112, .iaload, 1)) mq_125 ci_125 (List.mem_append_right _ ((show _ ∈ my_125_1 from List.mem_of_getElem? (i := 7) rfl)))
theorem cd_125_113 : mt_cd 125 113 = some (.iastore) := mt_cd_of (q := (113, .iastore, 1)) mq_125 ci_125 (List.mem_append_right _ ((show _ ∈ my_125_1 from List.mem_of_getElem? (i := 8) rfl)))
theorem cd_125_114 : mt_cd 125 114 = some (.iload 4) := mt_cd_of (q := (114, .iload 4, 2)) mq_125 ci_125 (List.mem_append_right _ ((show _ ∈ my_125_1 from List.mem_of_getElem? (i := 9) rfl)))
theorem cd_125_116 : mt_cd 125 116 = some (.bipush 8) := mt_cd_of (q := (116, .bipush 8, 2)) mq_125 ci_125 (List.mem_append_right _ ((show _ ∈ my_125_1 from List.mem_of_getElem? (i := 10) rfl)))
theorem cd_125_118 : mt_cd 125 118 = some (.if_icmp .ne 28) := mt_cd_of (q := (118, .if_icmp .ne 28, 3)) mq_125 ci_125 (List.mem_append_right _ ((show _ ∈ my_125_1 from List.mem_of_getElem? (i := 11) rfl)))
theorem cd_125_121 : mt_cd 125 121 = some (.aload_n 0) := mt_cd_of (q := (121, .aload_n 0, 1)) mq_125 ci_125 (List.mem_append_right _ ((show _ ∈ my_125_1 from List.mem_of_getElem? (i := 12) rfl)))
theorem cd_125_122 : mt_cd 125 122 = some (.iload_n 1) := mt_cd_of (q := (122, .iload_n 1, 1)) mq_125 ci_125 (List.mem_append_right _ ((show _ ∈ my_125_1 from List.mem_of_getElem? (i := 13) rfl)))
theorem cd_125_123 : mt_cd 125 123 = some (.iconst 1) := mt_cd_of (q := (123, .iconst 1, 1)) mq_125 ci_125 (List.mem_append_right _ ((show _ ∈ my_125_1 from List.mem_of_getElem? (i := 14) rfl)))
theorem cd_125_124 : mt_cd 125 124 = some (.aload_n 0) := mt_cd_of (q := (124, .aload_n 0, 1)) mq_125 ci_125 (List.mem_append_right _ ((show _ ∈ my_125_1 from List.mem_of_getElem? (i := 15) rfl)))
theorem cd_125_125 : mt_cd 125 125 = some (.getfield 60) := mt_cd_of (q := (125, .getfield 60, 3)) mq_125 ci_125 (List.mem_append_right _ ((show _ ∈ my_125_1 from List.mem_of_getElem? (i := 16) rfl)))
theorem cd_125_128 : mt_cd 125 128 = some (.aload_n 0) := mt_cd_of (q := (128, .aload_n 0, 1)) mq_125 ci_125 (List.mem_append_right _ ((show _ ∈ my_125_1 from List.mem_of_getElem? (i := 17) rfl)))
theorem cd_125_129 : mt_cd 125 129 = some (.getfield 41) := mt_cd_of (q := (129, .getfield 41, 3)) mq_125 ci_125 (List.mem_append_right _ ((show _ ∈ my_125_1 from List.mem_of_getElem? (i := 18) rfl)))
theorem cd_125_132 : mt_cd 125 132 = some (.getfield 111) := mt_cd_of (q := (132, .getfield 111, 3)) mq_125 ci_125 (List.mem_append_right _ ((show _ ∈ my_125_1 from List.mem_of_getElem? (i := 19) rfl)))
theorem cd_125_135 : mt_cd 125 135 = some (.iload_n 2) := mt_cd_of (q := (135, .iload_n 2, 1)) mq_125 ci_125 (List.mem_append_right _ ((show _ ∈ my_125_1 from List.mem_of_getElem? (i := 20) rfl)))
theorem cd_125_136 : mt_cd 125 136 = some (.iaload) := mt_cd_of (q := (136, .iaload, 1)) mq_125 ci_125 (List.mem_append_right _ ((show _ ∈ my_125_1 from List.mem_of_getElem? (i := 21) rfl)))
theorem cd_125_137 : mt_cd 125 137 = some (.iconst 1) := mt_cd_of (q := (137, .iconst 1, 1)) mq_125 ci_125 (List.mem_append_right _ ((show _ ∈ my_125_1 from List.mem_of_getElem? (i := 22) rfl)))
theorem cd_125_138 : mt_cd 125 138 = some (.invokevirtual 145) := mt_cd_of (q := (138, .invokevirtual 145, 3)) mq_125 ci_125 (List.mem_append_right _ ((show _ ∈ my_125_1 from List.mem_of_getElem? (i := 23) rfl)))
theorem cd_125_141 : mt_cd 125 141 = some (.iload_n 2) := mt_cd_of (q := (141, .iload_n 2, 1)) mq_125 ci_125 (List.mem_append_right _ ((show _ ∈ my_125_1 from List.mem_of_getElem? (i := 24) rfl)))
theorem cd_125_142 : mt_cd 125 142 = some (.invokevirtual 103) := mt_cd_of (q := (142, .invokevirtual 103, 3)) mq_125 ci_125 (List.mem_append_right _ ((show _ ∈ my_125_1 from List.mem_of_getElem? (i := 25) rfl)))
theorem cd_125_145 : mt_cd 125 145 = some (.ireturn) := mt_cd_of (q := (145, .ireturn, 1)) mq_125 ci_125 (List.mem_append_right _ ((show _ ∈ my_125_1 from List.mem_of_getElem? (i := 26) rfl)))
theorem cd_125_146 : mt_cd 125 146 = some (.iload 4) := mt_cd_of (q := (146, .iload 4, 2)) mq_125 ci_125 (List.mem_append_right _ ((show _ ∈ my_125_1 from List.mem_of_getElem? (i := 27) rfl)))
theorem cd_125_148 : mt_cd 125 148 = some (.bipush 10) := mt_cd_of (q := (148, .bipush 10, 2)) mq_125 ci_125 (List.mem_append_right _ ((show _ ∈ my_125_1 from List.mem_of_getElem? (i := 28) rfl)))
theorem cd_125_150 : mt_cd 125 150 = some (.if_icmp .ne 42) := mt_cd_of (q := (150, .if_icmp .ne 42, 3)) mq_125 ci_125 (List.mem_append_right _ ((show _ ∈ my_125_1 from List.mem_of_getElem? (i := 29) rfl)))
theorem cd_125_153 : mt_cd 125 153 = some (.aload_n 0) := mt_cd_of (q := (153, .aload_n 0, 1)) mq_125 ci_125 (List.mem_append_right _ ((show _ ∈ my_125_1 from List.mem_of_getElem? (i := 30) rfl)))
theorem cd_125_154 : mt_cd 125 154 = some (.getfield 60) := mt_cd_of (q := (154, .getfield 60, 3)) mq_125 ci_125 (List.mem_append_right _ ((show _ ∈ my_125_1 from List.mem_of_getElem? (i := 31) rfl)))
theorem cd_125_157 : mt_cd 125 157 = some (.aload_n 0) := mt_cd_of (q := (157, .aload_n 0, 1)) mq_125 ci_125 (List.mem_append_right _ ((show _ ∈ my_125_1 from List.mem_of_getElem? (i := 32) rfl)))
theorem cd_125_158 : mt_cd 125 158 = some (.getfield 41) := mt_cd_of (q := (158, .getfield 41, 3)) mq_125 ci_125 (List.mem_append_right _ ((show _ ∈ my_125_1 from List.mem_of_getElem? (i := 33) rfl)))
theorem cd_125_161 : mt_cd 125 161 = some (.getfield 111) := mt_cd_of (q := (161, .getfield 111, 3)) mq_125 ci_125 (List.mem_append_right _ ((show _ ∈ my_125_1 from List.mem_of_getElem? (i := 34) rfl)))
theorem cd_125_164 : mt_cd 125 164 = some (.iload_n 2) := mt_cd_of (q := (164, .iload_n 2, 1)) mq_125 ci_125 (List.mem_append_right _ ((show _ ∈ my_125_1 from List.mem_of_getElem? (i := 35) rfl)))
theorem cd_125_165 : mt_cd 125 165 = some (.iaload) := mt_cd_of (q := (165, .iaload, 1)) mq_125 ci_125 (List.mem_append_right _ ((show _ ∈ my_125_1 from List.mem_of_getElem? (i := 36) rfl)))
theorem cd_125_166 : mt_cd 125 166 = some (.iconst 1) := mt_cd_of (q := (166, .iconst 1, 1)) mq_125 ci_125 (List.mem_append_right _ ((show _ ∈ my_125_1 from List.mem_of_getElem? (i := 37) rfl)))
theorem cd_125_167 : mt_cd 125 167 = some (.invokevirtual 148) := mt_cd_of (q := (167, .invokevirtual 148, 3)) mq_125 ci_125 (List.mem_append_right _ ((show _ ∈ my_125_1 from List.mem_of_getElem? (i := 38) rfl)))
theorem cd_125_170 : mt_cd 125 170 = some (.ifCond .ne 13) := mt_cd_of (q := (170, .ifCond .ne 13, 3)) mq_125 ci_125 (List.mem_append_right _ ((show _ ∈ my_125_1 from List.mem_of_getElem? (i := 39) rfl)))
theorem cd_125_173 : mt_cd 125 173 = some (.aload_n 0) := mt_cd_of (q := (173, .aload_n 0, 1)) mq_125 ci_125 (List.mem_append_right _ ((show _ ∈ my_125_1 from List.mem_of_getElem? (i := 40) rfl)))
theorem cd_125_174 : mt_cd 125 174 = some (.getfield 60) := mt_cd_of (q := (174, .getfield 60, 3)) mq_125 ci_125 (List.mem_append_right _ ((show _ ∈ my_125_1 from List.mem_of_getElem? (i := 41) rfl)))
theorem cd_125_177 : mt_cd 125 177 = some (.getfield 151) := mt_cd_of (q := (177, .getfield 151, 3)) mq_125 ci_125 (List.mem_append_right _ ((show _ ∈ my_125_1 from List.mem_of_getElem? (i := 42) rfl)))
theorem cd_125_180 : mt_cd 125 180 = some (.ifCond .eq 12) := mt_cd_of (q := (180, .ifCond .eq 12, 3)) mq_125 ci_125 (List.mem_append_right _ ((show _ ∈ my_125_1 from List.mem_of_getElem? (i := 43) rfl)))
theorem cd_125_183 : mt_cd 125 183 = some (.aload_n 0) := mt_cd_of (q := (183, .aload_n 0, 1)) mq_125 ci_125 (List.mem_append_right _ ((show _ ∈ my_125_1 from List.mem_of_getElem? (i := 44) rfl)))
theorem cd_125_184 : mt_cd 125 184 = some (.iload_n 1) := mt_cd_of (q := (184, .iload_n 1, 1)) mq_125 ci_125 (List.mem_append_right _ ((show _ ∈ my_125_1 from List.mem_of_getElem? (i := 45) rfl)))
theorem cd_125_185 : mt_cd 125 185 = some (.iconst 3) := mt_cd_of (q := (185, .iconst 3, 1)) mq_125 ci_125 (List.mem_append_right _ ((show _ ∈ my_125_1 from List.mem_of_getElem? (i := 46) rfl)))
theorem cd_125_186 : mt_cd 125 186 = some (.lconst 0) := mt_cd_of (q := (186, .lconst 0, 1)) mq_125 ci_125 (List.mem_append_right _ ((show _ ∈ my_125_1 from List.mem_of_getElem? (i := 47) rfl)))
theorem cd_125_187 : mt_cd 125 187 = some (.iload_n 2) := mt_cd_of (q := (187, .iload_n 2, 1)) mq_125 ci_125 (List.mem_append_right _ ((show _ ∈ my_125_1 from List.mem_of_getElem? (i := 48) rfl)))
theorem cd_125_188 : mt_cd 125 188 = some (.invokevirtual 103) := mt_cd_of (q := (188, .invokevirtual 103, 3)) mq_125 ci_125 (List.mem_append_right _ ((show _ ∈ my_125_1 from List.mem_of_getElem? (i := 49) rfl)))
theorem cd_125_191 : mt_cd 125 191 = some (.ireturn) := mt_cd_of (q := (191, .ireturn, 1)) mq_125 ci_125 (List.mem_append_right _ ((show _ ∈ my_125_1 from List.mem_of_getElem? (i := 50) rfl)))
theorem cd_125_192 : mt_cd 125 192 = some (.iconst 0) := mt_cd_of (q := (192, .iconst 0, 1)) mq_125 ci_125 (List.mem_append_right _ ((show _ ∈ my_125_1 from List.mem_of_getElem? (i := 51) rfl)))
theorem cd_125_193 : mt_cd 125 193 = some (.ireturn) := mt_cd_of (q := (193, .ireturn, 1)) mq_125 ci_125 (List.mem_append_right _ ((show _ ∈ my_125_1 from List.mem_of_getElem? (i := 52) rfl)))
theorem b_125_0 {d : Nat} {Q : (Option Value ⊕ Nat) → mi_H → Prop} (n sl : Nat) (f : Nat → mi_C) {l1 : Nat} {l2 : Int32} {l3 : Int32} {o4 : Option Value} {o5 : Option Value} {fs6 : List Value} {x9 : Nat} (m11 i11 ka11 : Nat) (g11 : Nat → Option Nat) {x16 : Nat} {fs18 : List Value} {x21 : Nat} {fs23 : List Value} {x26 : Int64} {fs28 : List Value} {x31 : Int64} {fs33 : List Value} (h7 : f l1 = .inr (11, fs6)) (h8 : l1 < n) (h10 : fs6[4]? = some (.ref x9)) (h12 : f x9 = .inl (ka11, m11, .inr (.inr (.inr (.inr g11))))) (h13 : x9 < n) (h14 : 4 ≤ ka11 ∧ ka11 < mt_na) (h15 : mi_ix l2 m11 i11) (h17 : g11 i11 = some x16) (h19 : f l1 = .inr (11, fs18)) (h20 : l1 < n) (h22 : fs18[2]? = some (.ref x21)) (h24 : f x16 = .inr (9, fs23)) (h25 : x16 < n) (h27 : fs23[1]? = some (.long x26)) (h29 : f x16 = .inr (9, fs28)) (h30 : x16 < n) (h32 : fs28[1]? = some (.long x31)) (h34 : f x21 = .inr (10, fs33)) (h35 : x21 < n) (h36 : mi_W d 76 0 (mi_en 6 [.ref x21, .ref x16, .long x26, .long x31]) [] (n, sl, f) (mi_Kc d 125 20 [some (.ref l1), some (.int l2), some (.int l3), some (.ref x16), o5] [] Q)) : mi_W (d + 1) 125 0 [some (.ref l1), some (.int l2), some (.int l3), o4, o5] [] (n, sl, f) Q := by
  refine w_aload_n cd_125_0 rfl ?_
  refine w_getfield cd_125_1 (show mt_f 11 20 = some (11, 4) by decide +kernel) h7 h8 h10 ?_
  refine w_iload_n cd_125_4 rfl ?_
  refine w_aaload (w := .ref x16) cd_125_5 h12 h13 h14 h15 (by rw [h17]; rfl) ?_
  refine w_astore_n (ls' := [some (.ref l1), some (.int l2), some (.int l3), some (.ref x16), o5]) cd_125_6 (Nat.le_of_ble_eq_true rfl) rfl ?_
  refine w_aload_n cd_125_7 rfl ?_
  refine w_getfield cd_125_8 (show mt_f 11 60 = some (11, 2) by decide +kernel) h19 h20 h22 ?_
  refine w_aload_n cd_125_11 rfl ?_
  refine w_aload_n cd_125_12 rfl ?_
  refine w_getfield cd_125_13 (show mt_f 11 124 = some (9, 1) by decide +kernel) h24 h25 h27 ?_
  refine w_aload_n cd_125_16 rfl ?_
  refine w_getfield cd_125_17 (show mt_f 11 124 = some (9, 1) by decide +kernel) h29 h30 h32 ?_
  exact w_invokevirtual cd_125_20 (show mt_m 11 128 = some (76, 0) by decide +kernel) (rest := []) rfl (as := [.ref x21, .ref x16, .long x26, .long x31]) rfl h34 (Or.inl h35) ⟨Nat.le_of_ble_eq_true rfl, Nat.le_of_ble_eq_true rfl, Nat.le_of_ble_eq_true rfl⟩ h36
theorem b_125_23 {d : Nat} {Q : (Option Value ⊕ Nat) → mi_H → Prop} (n sl : Nat) (f : Nat → mi_C) {l1 : Nat} {l2 : Int32} {l3 : Int32} {l4 : Nat} {o5 : Option Value} {fs6 : List Value} {x9 : Nat} {fs11 : List Value} {x14 : Nat} (m16 i16 : Nat) (g16 : Nat → Int32) (h7 : f l1 = .inr (11, fs6)) (h8 : l1 < n) (h10 : fs6[0]? = some (.ref x9)) (h12 : f x9 = .inr (2, fs11)) (h13 : x9 < n) (h15 : fs11[0]? = some (.ref x14)) (h17 : f x14 = .inl (0, m16, .inl g16)) (h18 : x14 < n ∨ x14 = mi_SC) (h19 : mi_ix l3 m16 i16) (h20 : ¬ (g16 i16) = 9 → mi_W d 125 92 [some (.ref l1), some (.int l2), some (.int l3), some (.ref l4), some (.int (g16 i16))] [] (n, sl, f) Q) (h21 : ¬ (¬ (g16 i16) = 9) → mi_W d 125 41 [some (.ref l1), some (.int l2), some (.int l3), some (.ref l4), some (.int (g16 i16))] [] (n, sl, f) Q) : mi_W d 125 23 [some (.ref l1), some (.int l2), some (.int l3), some (.ref l4), o5] [] (n, sl, f) Q := by
  refine w_aload_n cd_125_23 rfl ?_
  refine w_getfield cd_125_24 (show mt_f 11 41 = some (11, 0) by decide +kernel) h7 h8 h10 ?_
  refine w_getfield cd_125_27 (show mt_f 11 132 = some (2, 0) by decide +kernel) h12 h13 h15 ?_
  refine w_iload_n cd_125_30 rfl ?_
  refine w_iaload cd_125_31 h17 h18 h19 ?_
  refine w_istore (ls' := [some (.ref l1), some (.int l2), some (.int l3), some (.ref l4), some (.int (g16 i16))]) cd_125_32 (Nat.le_of_ble_eq_true rfl) rfl ?_
  refine w_iload cd_125_34 rfl ?_
  refine w_bipush (v := 9) cd_125_36 (by decide) ?_
  exact w_if_icmpne cd_125_38 (by decide) h20 h21
theorem b_125_41 {d : Nat} {Q : (Option Value ⊕ Nat) → mi_H → Prop} (n sl : Nat) (f : Nat → mi_C) {l1 : Nat} {l2 : Int32} {l3 : Int32} {l4 : Nat} {l5 : Int32} {fs6 : List Value} {x9 : Nat} (m11 i11 : Nat) (g11 : Nat → Int32) {fs15 : List Value} {x18 : Nat} {fs20 : List Value} (h7 : f l1 = .inr (11, fs6)) (h8 : l1 < n) (h10 : fs6[6]? = some (.ref x9)) (h12 : f x9 = .inl (0, m11, .inl g11)) (h13 : x9 < n ∨ x9 = mi_SC) (h14 : mi_ix l2 m11 i11) (h16 : f l1 = .inr (11, fs15)) (h17 : l1 < n) (h19 : fs15[0]? = some (.ref x18)) (h21 : f x18 = .inr (2, fs20)) (h22 : x18 < n) (h23 : mi_W d 121 0 (mi_en 5 [.ref x18, .int l3]) [] (n, sl, f) (mi_Kc d 125 52 [some (.ref l1), some (.int l2), some (.int l3), some (.ref l4), some (.int l5)] [.int (g11 i11)] Q)) : mi_W (d + 1) 125 41 [some (.ref l1), some (.int l2), some (.int l3), some (.ref l4), some (.int l5)] [] (n, sl, f) Q := by
  refine w_aload_n cd_125_41 rfl ?_
  refine w_getfield cd_125_42 (show mt_f 11 28 = some (11, 6) by decide +kernel) h7 h8 h10 ?_
  refine w_iload_n cd_125_45 rfl ?_
  refine w_iaload cd_125_46 h12 h13 h14 ?_
  refine w_aload_n cd_125_47 rfl ?_
  refine w_getfield cd_125_48 (show mt_f 11 41 = some (11, 0) by decide +kernel) h16 h17 h19 ?_
  refine w_iload_n cd_125_51 rfl ?_
  exact w_invokevirtual cd_125_52 (show mt_m 11 135 = some (121, 0) by decide +kernel) (rest := [.int (g11 i11)]) rfl (as := [.ref x18, .int l3]) rfl h21 (Or.inl h22) ⟨Nat.le_of_ble_eq_true rfl, Nat.le_of_ble_eq_true rfl, Nat.le_of_ble_eq_true rfl⟩ h23
theorem b_125_55 {d : Nat} {Q : (Option Value ⊕ Nat) → mi_H → Prop} (n sl : Nat) (f : Nat → mi_C) {l1 : Nat} {l2 : Int32} {l3 : Int32} {l4 : Nat} {l5 : Int32} {s6 : Int32} {s7 : Int32} (h8 : s6 ≤ s7 → mi_W d 125 92 [some (.ref l1), some (.int l2), some (.int l3), some (.ref l4), some (.int l5)] [] (n, sl, f) Q) (h9 : ¬ (s6 ≤ s7) → mi_W d 125 58 [some (.ref l1), some (.int l2), some (.int l3), some (.ref l4), some (.int l5)] [] (n, sl, f) Q) : mi_W d 125 55 [some (.ref l1), some (.int l2), some (.int l3), some (.ref l4), some (.int l5)] [.int s6, .int s7] (n, sl, f) Q := by
  exact w_if_icmpge cd_125_55 (by decide) h8 h9
theorem b_125_58 {d : Nat} {Q : (Option Value ⊕ Nat) → mi_H → Prop} (n sl : Nat) (f : Nat → mi_C) {l1 : Nat} {l2 : Int32} {l3 : Int32} {l4 : Nat} {l5 : Int32} {fs6 : List Value} {x9 : Nat} (m11 i11 : Nat) (g11 : Nat → Int32) (m15 i15 : Nat) (g15 : Nat → Int32) {fs19 : List Value} {x22 : Nat} {fs24 : List Value} {x27 : Nat} (m29 i29 : Nat) (g29 : Nat → Int32) {fs33 : List Value} (h7 : f l1 = .inr (11, fs6)) (h8 : l1 < n) (h10 : fs6[6]? = some (.ref x9)) (h12 : f x9 = .inl (0, m11, .inl g11)) (h13 : x9 < n ∨ x9 = mi_SC) (h14 : mi_ix l2 m11 i11) (h16 : f x9 = .inl (0, m15, .inl g15)) (h17 : x9 < n) (h18 : mi_ix l2 m15 i15) (h20 : (va_up f x9 (.inl (0, m15, .inl (upd g15 i15 ((g11 i11) + 1))))) l1 = .inr (11, fs19)) (h21 : l1 < n) (h23 : fs19[0]? = some (.ref x22)) (h25 : (va_up f x9 (.inl (0, m15, .inl (upd g15 i15 ((g11 i11) + 1))))) l1 = .inr (11, fs24)) (h26 : l1 < n) (h28 : fs24[6]? = some (.ref x27)) (h30 : (va_up f x9 (.inl (0, m15, .inl (upd g15 i15 ((g11 i11) + 1))))) x27 = .inl (0, m29, .inl g29)) (h31 : x27 < n ∨ x27 = mi_SC) (h32 : mi_ix l2 m29 i29) (h34 : (va_up f x9 (.inl (0, m15, .inl (upd g15 i15 ((g11 i11) + 1))))) x22 = .inr (2, fs33)) (h35 : x22 < n) (h36 : mi_W d 126 0 (mi_en 8 [.ref x22, .int l3, .int ((g29 i29) - 1)]) [] (n, sl, (va_up f x9 (.inl (0, m15, .inl (upd g15 i15 ((g11 i11) + 1)))))) (mi_Kc d 125 84 [some (.ref l1), some (.int l2), some (.int l3), some (.ref l4), some (.int l5)] [.int 2, .int l2, .ref l1] Q)) : mi_W (d + 1) 125 58 [some (.ref l1), some (.int l2), some (.int l3), some (.ref l4), some (.int l5)] [] (n, sl, f) Q := by
  refine w_aload_n cd_125_58 rfl ?_
  refine w_getfield cd_125_59 (show mt_f 11 28 = some (11, 6) by decide +kernel) h7 h8 h10 ?_
  refine w_iload_n cd_125_62 rfl ?_
  refine w_dup2_ir cd_125_63 ?_
  refine w_iaload cd_125_64 h12 h13 h14 ?_
  refine w_iconst (v := 1) cd_125_65 (by decide) ?_
  refine w_iadd cd_125_66 ?_
  refine w_iastore cd_125_67 h16 h17 h18 ?_
  refine w_aload_n cd_125_68 rfl ?_
  refine w_iload_n cd_125_69 rfl ?_
  refine w_iconst (v := 2) cd_125_70 (by decide) ?_
  refine w_aload_n cd_125_71 rfl ?_
  refine w_getfield cd_125_72 (show mt_f 11 41 = some (11, 0) by decide +kernel) h20 h21 h23 ?_
  refine w_iload_n cd_125_75 rfl ?_
  refine w_aload_n cd_125_76 rfl ?_
  refine w_getfield cd_125_77 (show mt_f 11 28 = some (11, 6) by decide +kernel) h25 h26 h28 ?_
  refine w_iload_n cd_125_80 rfl ?_
  refine w_iaload cd_125_81 h30 h31 h32 ?_
  refine w_iconst (v := 1) cd_125_82 (by decide) ?_
  refine w_isub cd_125_83 ?_
  exact w_invokevirtual cd_125_84 (show mt_m 11 138 = some (126, 0) by decide +kernel) (rest := [.int 2, .int l2, .ref l1]) rfl (as := [.ref x22, .int l3, .int ((g29 i29) - 1)]) rfl h34 (Or.inl h35) ⟨Nat.le_of_ble_eq_true rfl, Nat.le_of_ble_eq_true rfl, Nat.le_of_ble_eq_true rfl⟩ h36
theorem b_125_87 {d : Nat} {Q : (Option Value ⊕ Nat) → mi_H → Prop} (n sl : Nat) (f : Nat → mi_C) {l1 : Nat} {l2 : Int32} {l3 : Int32} {l4 : Nat} {l5 : Int32} {s6 : Int64} {s7 : Int32} {s8 : Int32} {s9 : Nat} {fs10 : List Value} (h11 : f s9 = .inr (11, fs10)) (h12 : s9 < n) (h13 : mi_W d 124 0 (mi_en 6 [.ref s9, .int s8, .int s7, .long s6, .int l3]) [] (n, sl, f) (mi_Kc d 125 88 [some (.ref l1), some (.int l2), some (.int l3), some (.ref l4), some (.int l5)] [] Q)) : mi_W (d + 1) 125 87 [some (.ref l1), some (.int l2), some (.int l3), some (.ref l4), some (.int l5)] [.long s6, .int s7, .int s8, .ref s9] (n, sl, f) Q := by
  refine w_iload_n cd_125_87 rfl ?_
  exact w_invokevirtual cd_125_88 (show mt_m 11 103 = some (124, 0) by decide +kernel) (rest := []) rfl (as := [.ref s9, .int s8, .int s7, .long s6, .int l3]) rfl h11 (Or.inl h12) ⟨Nat.le_of_ble_eq_true rfl, Nat.le_of_ble_eq_true rfl, Nat.le_of_ble_eq_true rfl⟩ h13
theorem b_125_91 {d : Nat} {Q : (Option Value ⊕ Nat) → mi_H → Prop} (n sl : Nat) (f : Nat → mi_C) {l1 : Nat} {l2 : Int32} {l3 : Int32} {l4 : Nat} {l5 : Int32} {s6 : Int32} (h7 : s6 = 0 ∨ s6 = 1) (h8 : Q (.inl (some (.int s6))) (n, sl, f)) : mi_W d 125 91 [some (.ref l1), some (.int l2), some (.int l3), some (.ref l4), some (.int l5)] [.int s6] (n, sl, f) Q := by
  exact w_ireturn_z cd_125_91 (by decide +kernel) h7 h8
theorem b_125_92 {d : Nat} {Q : (Option Value ⊕ Nat) → mi_H → Prop} (n sl : Nat) (f : Nat → mi_C) {l1 : Nat} {l2 : Int32} {l3 : Int32} {l4 : Nat} {l5 : Int32} {fs6 : List Value} {x9 : Nat} (m11 i11 : Nat) (g11 : Nat → Int32) {fs15 : List Value} {x18 : Nat} {fs20 : List Value} {x23 : Nat} {fs25 : List Value} {x28 : Nat} (m30 i30 : Nat) (g30 : Nat → Int32) (m34 i34 : Nat) (g34 : Nat → Int32) (h7 : f l1 = .inr (11, fs6)) (h8 : l1 < n) (h10 : fs6[6]? = some (.ref x9)) (h12 : f x9 = .inl (0, m11, .inl g11)) (h13 : x9 < n) (h14 : mi_ix l2 m11 i11) (h16 : (va_up f x9 (.inl (0, m11, .inl (upd g11 i11 0)))) l1 = .inr (11, fs15)) (h17 : l1 < n) (h19 : fs15[5]? = some (.ref x18)) (h21 : (va_up f x9 (.inl (0, m11, .inl (upd g11 i11 0)))) l1 = .inr (11, fs20)) (h22 : l1 < n) (h24 : fs20[0]? = some (.ref x23)) (h26 : (va_up f x9 (.inl (0, m11, .inl (upd g11 i11 0)))) x23 = .inr (2, fs25)) (h27 : x23 < n) (h29 : fs25[3]? = some (.ref x28)) (h31 : (va_up f x9 (.inl (0, m11, .inl (upd g11 i11 0)))) x28 = .inl (0, m30, .inl g30)) (h32 : x28 < n ∨ x28 = mi_SC) (h33 : mi_ix l3 m30 i30) (h35 : (va_up f x9 (.inl (0, m11, .inl (upd g11 i11 0)))) x18 = .inl (0, m34, .inl g34)) (h36 : x18 < n) (h37 : mi_ix l2 m34 i34) (h38 : ¬ l5 = 8 → mi_W d 125 146 [some (.ref l1), some (.int l2), some (.int l3), some (.ref l4), some (.int l5)] [] (n, sl, (va_up (va_up f x9 (.inl (0, m11, .inl (upd g11 i11 0)))) x18 (.inl (0, m34, .inl (upd g34 i34 (g30 i30)))))) Q) (h39 : ¬ (¬ l5 = 8) → mi_W d 125 121 [some (.ref l1), some (.int l2), some (.int l3), some (.ref l4), some (.int l5)] [] (n, sl, (va_up (va_up f x9 (.inl (0, m11, .inl (upd g11 i11 0)))) x18 (.inl (0, m34, .inl (upd g34 i34 (g30 i30)))))) Q) : mi_W d 125 92 [some (.ref l1), some (.int l2), some (.int l3), some (.ref l4), some (.int l5)] [] (n, sl, f) Q := by
  refine w_aload_n cd_125_92 rfl ?_
  refine w_getfield cd_125_93 (show mt_f 11 28 = some (11, 6) by decide +kernel) h7 h8 h10 ?_
  refine w_iload_n cd_125_96 rfl ?_
  refine w_iconst (v := 0) cd_125_97 (by decide) ?_
  refine w_iastore cd_125_98 h12 h13 h14 ?_
  refine w_aload_n cd_125_99 rfl ?_
  refine w_getfield cd_125_100 (show mt_f 11 24 = some (11, 5) by decide +kernel) h16 h17 h19 ?_
  refine w_iload_n cd_125_103 rfl ?_
  refine w_aload_n cd_125_104 rfl ?_
  refine w_getfield cd_125_105 (show mt_f 11 41 = some (11, 0) by decide +kernel) h21 h22 h24 ?_
  refine w_getfield cd_125_108 (show mt_f 11 142 = some (2, 3) by decide +kernel) h26 h27 h29 ?_
  refine w_iload_n cd_125_111 rfl ?_
  refine w_iaload cd_125_112 h31 h32 h33 ?_
  refine w_iastore cd_125_113 h35 h36 h37 ?_
  refine w_iload cd_125_114 rfl ?_
  refine w_bipush (v := 8) cd_125_116 (by decide) ?_
  exact w_if_icmpne cd_125_118 (by decide) h38 h39
theorem b_125_121 {d : Nat} {Q : (Option Value ⊕ Nat) → mi_H → Prop} (n sl : Nat) (f : Nat → mi_C) {l1 : Nat} {l2 : Int32} {l3 : Int32} {l4 : Nat} {l5 : Int32} {fs6 : List Value} {x9 : Nat} {fs11 : List Value} {x14 : Nat} {fs16 : List Value} {x19 : Nat} (m21 i21 : Nat) (g21 : Nat → Int32) {fs25 : List Value} (h7 : f l1 = .inr (11, fs6)) (h8 : l1 < n) (h10 : fs6[2]? = some (.ref x9)) (h12 : f l1 = .inr (11, fs11)) (h13 : l1 < n) (h15 : fs11[0]? = some (.ref x14)) (h17 : f x14 = .inr (2, fs16)) (h18 : x14 < n) (h20 : fs16[1]? = some (.ref x19)) (h22 : f x19 = .inl (0, m21, .inl g21)) (h23 : x19 < n ∨ x19 = mi_SC) (h24 : mi_ix l3 m21 i21) (h26 : f x9 = .inr (10, fs25)) (h27 : x9 < n) (h28 : mi_W d 85 0 (mi_en 5 [.ref x9, .int (g21 i21), .int 1]) [] (n, sl, f) (mi_Kc d 125 138 [some (.ref l1), some (.int l2), some (.int l3), some (.ref l4), some (.int l5)] [.int 1, .int l2, .ref l1] Q)) : mi_W (d + 1) 125 121 [some (.ref l1), some (.int l2), some (.int l3), some (.ref l4), some (.int l5)] [] (n, sl, f) Q := by
  refine w_aload_n cd_125_121 rfl ?_
  refine w_iload_n cd_125_122 rfl ?_
  refine w_iconst (v := 1) cd_125_123 (by decide) ?_
  refine w_aload_n cd_125_124 rfl ?_
  refine w_getfield cd_125_125 (show mt_f 11 60 = some (11, 2) by decide +kernel) h7 h8 h10 ?_
  refine w_aload_n cd_125_128 rfl ?_
  refine w_getfield cd_125_129 (show mt_f 11 41 = some (11, 0) by decide +kernel) h12 h13 h15 ?_
  refine w_getfield cd_125_132 (show mt_f 11 111 = some (2, 1) by decide +kernel) h17 h18 h20 ?_
  refine w_iload_n cd_125_135 rfl ?_
  refine w_iaload cd_125_136 h22 h23 h24 ?_
  refine w_iconst (v := 1) cd_125_137 (by decide) ?_
  exact w_invokevirtual cd_125_138 (show mt_m 11 145 = some (85, 0) by decide +kernel) (rest := [.int 1, .int l2, .ref l1]) rfl (as := [.ref x9, .int (g21 i21), .int 1]) rfl h26 (Or.inl h27) ⟨Nat.le_of_ble_eq_true rfl, Nat.le_of_ble_eq_true rfl, Nat.le_of_ble_eq_true rfl⟩ h28
theorem b_125_141 {d : Nat} {Q : (Option Value ⊕ Nat) → mi_H → Prop} (n sl : Nat) (f : Nat → mi_C) {l1 : Nat} {l2 : Int32} {l3 : Int32} {l4 : Nat} {l5 : Int32} {s6 : Int64} {s7 : Int32} {s8 : Int32} {s9 : Nat} {fs10 : List Value} (h11 : f s9 = .inr (11, fs10)) (h12 : s9 < n) (h13 : mi_W d 124 0 (mi_en 6 [.ref s9, .int s8, .int s7, .long s6, .int l3]) [] (n, sl, f) (mi_Kc d 125 142 [some (.ref l1), some (.int l2), some (.int l3), some (.ref l4), some (.int l5)] [] Q)) : mi_W (d + 1) 125 141 [some (.ref l1), some (.int l2), some (.int l3), some (.ref l4), some (.int l5)] [.long s6, .int s7, .int s8, .ref s9] (n, sl, f) Q := by
  refine w_iload_n cd_125_141 rfl ?_
  exact w_invokevirtual cd_125_142 (show mt_m 11 103 = some (124, 0) by decide +kernel) (rest := []) rfl (as := [.ref s9, .int s8, .int s7, .long s6, .int l3]) rfl h11 (Or.inl h12) ⟨Nat.le_of_ble_eq_true rfl, Nat.le_of_ble_eq_true rfl, Nat.le_of_ble_eq_true rfl⟩ h13
theorem b_125_145 {d : Nat} {Q : (Option Value ⊕ Nat) → mi_H → Prop} (n sl : Nat) (f : Nat → mi_C) {l1 : Nat} {l2 : Int32} {l3 : Int32} {l4 : Nat} {l5 : Int32} {s6 : Int32} (h7 : s6 = 0 ∨ s6 = 1) (h8 : Q (.inl (some (.int s6))) (n, sl, f)) : mi_W d 125 145 [some (.ref l1), some (.int l2), some (.int l3), some (.ref l4), some (.int l5)] [.int s6] (n, sl, f) Q := by
  exact w_ireturn_z cd_125_145 (by decide +kernel) h7 h8
theorem b_125_146 {d : Nat} {Q : (Option Value ⊕ Nat) → mi_H → Prop} (n sl : Nat) (f : Nat → mi_C) {l1 : Nat} {l2 : Int32} {l3 : Int32} {l4 : Nat} {l5 : Int32} (h6 : ¬ l5 = 10 → mi_W d 125 192 [some (.ref l1), some (.int l2), some (.int l3), some (.ref l4), some (.int l5)] [] (n, sl, f) Q) (h7 : ¬ (¬ l5 = 10) → mi_W d 125 153 [some (.ref l1), some (.int l2), some (.int l3), some (.ref l4), some (.int l5)] [] (n, sl, f) Q) : mi_W d 125 146 [some (.ref l1), some (.int l2), some (.int l3), some (.ref l4), some (.int l5)] [] (n, sl, f) Q := by
  refine w_iload cd_125_146 rfl ?_
  refine w_bipush (v := 10) cd_125_148 (by decide) ?_
  exact w_if_icmpne cd_125_150 (by decide) h6 h7
theorem b_125_153 {d : Nat} {Q : (Option Value ⊕ Nat) → mi_H → Prop} (n sl : Nat) (f : Nat → mi_C) {l1 : Nat} {l2 : Int32} {l3 : Int32} {l4 : Nat} {l5 : Int32} {fs6 : List Value} {x9 : Nat} {fs11 : List Value} {x14 : Nat} {fs16 : List Value} {x19 : Nat} (m21 i21 : Nat) (g21 : Nat → Int32) {fs25 : List Value} (h7 : f l1 = .inr (11, fs6)) (h8 : l1 < n) (h10 : fs6[2]? = some (.ref x9)) (h12 : f l1 = .inr (11, fs11)) (h13 : l1 < n) (h15 : fs11[0]? = some (.ref x14)) (h17 : f x14 = .inr (2, fs16)) (h18 : x14 < n) (h20 : fs16[1]? = some (.ref x19)) (h22 : f x19 = .inl (0, m21, .inl g21)) (h23 : x19 < n ∨ x19 = mi_SC) (h24 : mi_ix l3 m21 i21) (h26 : f x9 = .inr (10, fs25)) (h27 : x9 < n) (h28 : mi_W d 90 0 (mi_en 6 [.ref x9, .int (g21 i21), .int 1]) [] (n, sl, f) (mi_Kc d 125 167 [some (.ref l1), some (.int l2), some (.int l3), some (.ref l4), some (.int l5)] [] Q)) : mi_W (d + 1) 125 153 [some (.ref l1), some (.int l2), some (.int l3), some (.ref l4), some (.int l5)] [] (n, sl, f) Q := by
  refine w_aload_n cd_125_153 rfl ?_
  refine w_getfield cd_125_154 (show mt_f 11 60 = some (11, 2) by decide +kernel) h7 h8 h10 ?_
  refine w_aload_n cd_125_157 rfl ?_
  refine w_getfield cd_125_158 (show mt_f 11 41 = some (11, 0) by decide +kernel) h12 h13 h15 ?_
  refine w_getfield cd_125_161 (show mt_f 11 111 = some (2, 1) by decide +kernel) h17 h18 h20 ?_
  refine w_iload_n cd_125_164 rfl ?_
  refine w_iaload cd_125_165 h22 h23 h24 ?_
  refine w_iconst (v := 1) cd_125_166 (by decide) ?_
  exact w_invokevirtual cd_125_167 (show mt_m 11 148 = some (90, 0) by decide +kernel) (rest := []) rfl (as := [.ref x9, .int (g21 i21), .int 1]) rfl h26 (Or.inl h27) ⟨Nat.le_of_ble_eq_true rfl, Nat.le_of_ble_eq_true rfl, Nat.le_of_ble_eq_true rfl⟩ h28
theorem b_125_170 {d : Nat} {Q : (Option Value ⊕ Nat) → mi_H → Prop} (n sl : Nat) (f : Nat → mi_C) {l1 : Nat} {l2 : Int32} {l3 : Int32} {l4 : Nat} {l5 : Int32} {s6 : Int32} (h7 : ¬ s6 = (0 : Int32) → mi_W d 125 183 [some (.ref l1), some (.int l2), some (.int l3), some (.ref l4), some (.int l5)] [] (n, sl, f) Q) (h8 : ¬ (¬ s6 = (0 : Int32)) → mi_W d 125 173 [some (.ref l1), some (.int l2), some (.int l3), some (.ref l4), some (.int l5)] [] (n, sl, f) Q) : mi_W d 125 170 [some (.ref l1), some (.int l2), some (.int l3), some (.ref l4), some (.int l5)] [.int s6] (n, sl, f) Q := by
  exact w_ifne cd_125_170 (by decide) h7 h8
theorem b_125_173 {d : Nat} {Q : (Option Value ⊕ Nat) → mi_H → Prop} (n sl : Nat) (f : Nat → mi_C) {l1 : Nat} {l2 : Int32} {l3 : Int32} {l4 : Nat} {l5 : Int32} {fs6 : List Value} {x9 : Nat} {fs11 : List Value} {x14 : Int32} (h7 : f l1 = .inr (11, fs6)) (h8 : l1 < n) (h10 : fs6[2]? = some (.ref x9)) (h12 : f x9 = .inr (10, fs11)) (h13 : x9 < n) (h15 : fs11[4]? = some (.int x14)) (h16 : x14 = (0 : Int32) → mi_W d 125 192 [some (.ref l1), some (.int l2), some (.int l3), some (.ref l4), some (.int l5)] [] (n, sl, f) Q) (h17 : ¬ (x14 = (0 : Int32)) → mi_W d 125 183 [some (.ref l1), some (.int l2), some (.int l3), some (.ref l4), some (.int l5)] [] (n, sl, f) Q) : mi_W d 125 173 [some (.ref l1), some (.int l2), some (.int l3), some (.ref l4), some (.int l5)] [] (n, sl, f) Q := by
  refine w_aload_n cd_125_173 rfl ?_
  refine w_getfield cd_125_174 (show mt_f 11 60 = some (11, 2) by decide +kernel) h7 h8 h10 ?_
  refine w_getfield cd_125_177 (show mt_f 11 151 = some (10, 4) by decide +kernel) h12 h13 h15 ?_
  exact w_ifeq cd_125_180 (by decide) h16 h17
theorem b_125_183 {d : Nat} {Q : (Option Value ⊕ Nat) → mi_H → Prop} (n sl : Nat) (f : Nat → mi_C) {l1 : Nat} {l2 : Int32} {l3 : Int32} {l4 : Nat} {l5 : Int32} {fs6 : List Value} (h7 : f l1 = .inr (11, fs6)) (h8 : l1 < n) (h9 : mi_W d 124 0 (mi_en 6 [.ref l1, .int l2, .int 3, .long 0, .int l3]) [] (n, sl, f) (mi_Kc d 125 188 [some (.ref l1), some (.int l2), some (.int l3), some (.ref l4), some (.int l5)] [] Q)) : mi_W (d + 1) 125 183 [some (.ref l1), some (.int l2), some (.int l3), some (.ref l4), some (.int l5)] [] (n, sl, f) Q := by
  refine w_aload_n cd_125_183 rfl ?_
  refine w_iload_n cd_125_184 rfl ?_
  refine w_iconst (v := 3) cd_125_185 (by decide) ?_
  refine w_lconst (lv := 0) cd_125_186 (by decide) ?_
  refine w_iload_n cd_125_187 rfl ?_
  exact w_invokevirtual cd_125_188 (show mt_m 11 103 = some (124, 0) by decide +kernel) (rest := []) rfl (as := [.ref l1, .int l2, .int 3, .long 0, .int l3]) rfl h7 (Or.inl h8) ⟨Nat.le_of_ble_eq_true rfl, Nat.le_of_ble_eq_true rfl, Nat.le_of_ble_eq_true rfl⟩ h9
theorem b_125_191 {d : Nat} {Q : (Option Value ⊕ Nat) → mi_H → Prop} (n sl : Nat) (f : Nat → mi_C) {l1 : Nat} {l2 : Int32} {l3 : Int32} {l4 : Nat} {l5 : Int32} {s6 : Int32} (h7 : s6 = 0 ∨ s6 = 1) (h8 : Q (.inl (some (.int s6))) (n, sl, f)) : mi_W d 125 191 [some (.ref l1), some (.int l2), some (.int l3), some (.ref l4), some (.int l5)] [.int s6] (n, sl, f) Q := by
  exact w_ireturn_z cd_125_191 (by decide +kernel) h7 h8
theorem b_125_192 {d : Nat} {Q : (Option Value ⊕ Nat) → mi_H → Prop} (n sl : Nat) (f : Nat → mi_C) {l1 : Nat} {l2 : Int32} {l3 : Int32} {l4 : Nat} {l5 : Int32} (h6 : Q (.inl (some (.int 0))) (n, sl, f)) : mi_W d 125 192 [some (.ref l1), some (.int l2), some (.int l3), some (.ref l4), some (.int l5)] [] (n, sl, f) Q := by
  refine w_iconst (v := 0) cd_125_192 (by decide) ?_
  exact w_ireturn_z cd_125_193 (by decide +kernel) (by decide) h6
/-! MarloweHost$Tree.numberTried(II)J -/
set_option maxRecDepth 100000 in
theorem mq_126 : mt_q 126 = my_126 := rfl
set_option maxRecDepth 100000 in
theorem ci_126 : mt_inc 0 my_126.cd = true := by decide +kernel
theorem cd_126_0 : mt_cd 126 0 = some (.iload_n 2) := mt_cd_of (q := (0, .iload_n 2, 1)) mq_126 ci_126 (List.mem_of_getElem? (i := 0) rfl)
theorem cd_126_1 : mt_cd 126 1 = some (.i2l) := mt_cd_of (q := (1, .i2l, 1)) mq_126 ci_126 (List.mem_of_getElem? (i := 1) rfl)
theorem cd_126_2 : mt_cd 126 2 = some (.lstore_n 3) := mt_cd_of (q := (2, .lstore_n 3, 1)) mq_126 ci_126 (List.mem_of_getElem? (i := 2) rfl)
theorem cd_126_3 : mt_cd 126 3 = some (.aload_n 0) := mt_cd_of (q := (3, .aload_n 0, 1)) mq_126 ci_126 (List.mem_of_getElem? (i := 3) rfl)
theorem cd_126_4 : mt_cd 126 4 = some (.getfield 27) := mt_cd_of (q := (4, .getfield 27, 3)) mq_126 ci_126 (List.mem_of_getElem? (i := 4) rfl)
theorem cd_126_7 : mt_cd 126 7 = some (.iload_n 1) := mt_cd_of (q := (7, .iload_n 1, 1)) mq_126 ci_126 (List.mem_of_getElem? (i := 5) rfl)
theorem cd_126_8 : mt_cd 126 8 = some (.iaload) := mt_cd_of (q := (8, .iaload, 1)) mq_126 ci_126 (List.mem_of_getElem? (i := 6) rfl)
theorem cd_126_9 : mt_cd 126 9 = some (.istore 5) := mt_cd_of (q := (9, .istore 5, 2)) mq_126 ci_126 (List.mem_of_getElem? (i := 7) rfl)
theorem cd_126_11 : mt_cd 126 11 = some (.iload 5) := mt_cd_of (q := (11, .iload 5, 2)) mq_126 ci_126 (List.mem_of_getElem? (i := 8) rfl)
theorem cd_126_13 : mt_cd 126 13 = some (.ifCond .lt 65) := mt_cd_of (q := (13, .ifCond .lt 65, 3)) mq_126 ci_126 (List.mem_of_getElem? (i := 9) rfl)
theorem cd_126_16 : mt_cd 126 16 = some (.iload 5) := mt_cd_of (q := (16, .iload 5, 2)) mq_126 ci_126 (List.mem_of_getElem? (i := 10) rfl)
theorem cd_126_18 : mt_cd 126 18 = some (.iconst 1) := mt_cd_of (q := (18, .iconst 1, 1)) mq_126 ci_126 (List.mem_of_getElem? (i := 11) rfl)
theorem cd_126_19 : mt_cd 126 19 = some (.iadd) := mt_cd_of (q := (19, .iadd, 1)) mq_126 ci_126 (List.mem_of_getElem? (i := 12) rfl)
theorem cd_126_20 : mt_cd 126 20 = some (.aload_n 0) := mt_cd_of (q := (20, .aload_n 0, 1)) mq_126 ci_126 (List.mem_of_getElem? (i := 13) rfl)
theorem cd_126_21 : mt_cd 126 21 = some (.getfield 30) := mt_cd_of (q := (21, .getfield 30, 3)) mq_126 ci_126 (List.mem_of_getElem? (i := 14) rfl)
theorem cd_126_24 : mt_cd 126 24 = some (.iload_n 1) := mt_cd_of (q := (24, .iload_n 1, 1)) mq_126 ci_126 (List.mem_of_getElem? (i := 15) rfl)
theorem cd_126_25 : mt_cd 126 25 = some (.iaload) := mt_cd_of (q := (25, .iaload, 1)) mq_126 ci_126 (List.mem_of_getElem? (i := 16) rfl)
theorem cd_126_26 : mt_cd 126 26 = some (.if_icmp .ge 52) := mt_cd_of (q := (26, .if_icmp .ge 52, 3)) mq_126 ci_126 (List.mem_of_getElem? (i := 17) rfl)
theorem cd_126_29 : mt_cd 126 29 = some (.aload_n 0) := mt_cd_of (q := (29, .aload_n 0, 1)) mq_126 ci_126 (List.mem_of_getElem? (i := 18) rfl)
theorem cd_126_30 : mt_cd 126 30 = some (.getfield 44) := mt_cd_of (q := (30, .getfield 44, 3)) mq_126 ci_126 (List.mem_of_getElem? (i := 19) rfl)
theorem cd_126_33 : mt_cd 126 33 = some (.iload 5) := mt_cd_of (q := (33, .iload 5, 2)) mq_126 ci_126 (List.mem_of_getElem? (i := 20) rfl)
theorem cd_126_35 : mt_cd 126 35 = some (.iconst 1) := mt_cd_of (q := (35, .iconst 1, 1)) mq_126 ci_126 (List.mem_of_getElem? (i := 21) rfl)
theorem cd_126_36 : mt_cd 126 36 = some (.iadd) := mt_cd_of (q := (36, .iadd, 1)) mq_126 ci_126 (List.mem_of_getElem? (i := 22) rfl)
theorem cd_126_37 : mt_cd 126 37 = some (.laload) := mt_cd_of (q := (37, .laload, 1)) mq_126 ci_126 (List.mem_of_getElem? (i := 23) rfl)
theorem cd_126_38 : mt_cd 126 38 = some (.aload_n 0) := mt_cd_of (q := (38, .aload_n 0, 1)) mq_126 ci_126 (List.mem_of_getElem? (i := 24) rfl)
theorem cd_126_39 : mt_cd 126 39 = some (.getfield 44) := mt_cd_of (q := (39, .getfield 44, 3)) mq_126 ci_126 (List.mem_of_getElem? (i := 25) rfl)
theorem cd_126_42 : mt_cd 126 42 = some (.iload 5) := mt_cd_of (q := (42, .iload 5, 2)) mq_126 ci_126 (List.mem_of_getElem? (i := 26) rfl)
theorem cd_126_44 : mt_cd 126 44 = some (.laload) := mt_cd_of (q := (44, .laload, 1)) mq_126 ci_126 (List.mem_of_getElem? (i := 27) rfl)
theorem cd_126_45 : mt_cd 126 45 = some (.lsub) := mt_cd_of (q := (45, .lsub, 1)) mq_126 ci_126 (List.mem_of_getElem? (i := 28) rfl)
theorem cd_126_46 : mt_cd 126 46 = some (.lconst 1) := mt_cd_of (q := (46, .lconst 1, 1)) mq_126 ci_126 (List.mem_of_getElem? (i := 29) rfl)
theorem cd_126_47 : mt_cd 126 47 = some (.ladd) := mt_cd_of (q := (47, .ladd, 1)) mq_126 ci_126 (List.mem_of_getElem? (i := 30) rfl)
theorem cd_126_48 : mt_cd 126 48 = some (.lstore 6) := mt_cd_of (q := (48, .lstore 6, 2)) mq_126 ci_126 (List.mem_of_getElem? (i := 31) rfl)
theorem cd_126_50 : mt_cd 126 50 = some (.lload_n 3) := mt_cd_of (q := (50, .lload_n 3, 1)) mq_126 ci_126 (List.mem_of_getElem? (i := 32) rfl)
theorem cd_126_51 : mt_cd 126 51 = some (.lload 6) := mt_cd_of (q := (51, .lload 6, 2)) mq_126 ci_126 (List.mem_of_getElem? (i := 33) rfl)
theorem cd_126_53 : mt_cd 126 53 = some (.lcmp) := mt_cd_of (q := (53, .lcmp, 1)) mq_126 ci_126 (List.mem_of_getElem? (i := 34) rfl)
theorem cd_126_54 : mt_cd 126 54 = some (.ifCond .ge 13) := mt_cd_of (q := (54, .ifCond .ge 13, 3)) mq_126 ci_126 (List.mem_of_getElem? (i := 35) rfl)
theorem cd_126_57 : mt_cd 126 57 = some (.aload_n 0) := mt_cd_of (q := (57, .aload_n 0, 1)) mq_126 ci_126 (List.mem_of_getElem? (i := 36) rfl)
theorem cd_126_58 : mt_cd 126 58 = some (.getfield 44) := mt_cd_of (q := (58, .getfield 44, 3)) mq_126 ci_126 (List.mem_of_getElem? (i := 37) rfl)
theorem cd_126_61 : mt_cd 126 61 = some (.iload 5) := mt_cd_of (q := (61, .iload 5, 2)) mq_126 ci_126 (List.mem_of_getElem? (i := 38) rfl)
theorem cd_126_63 : mt_cd 126 63 = some (.laload) := mt_cd_of (q := (63, .laload, 1)) mq_126 ci_126 (List.mem_of_getElem? (i := 39) rfl)
theorem cd_126_64 : mt_cd 126 64 = some (.lload_n 3) := mt_cd_of (q := (64, .lload_n 3, 1)) mq_126 ci_126 (List.mem_of_getElem? (i := 40) rfl)
theorem cd_126_65 : mt_cd 126 65 = some (.ladd) := mt_cd_of (q := (65, .ladd, 1)) mq_126 ci_126 (List.mem_of_getElem? (i := 41) rfl)
theorem cd_126_66 : mt_cd 126 66 = some (.lreturn) := mt_cd_of (q := (66, .lreturn, 1)) mq_126 ci_126 (List.mem_of_getElem? (i := 42) rfl)
theorem cd_126_67 : mt_cd 126 67 = some (.lload_n 3) := mt_cd_of (q := (67, .lload_n 3, 1)) mq_126 ci_126 (List.mem_of_getElem? (i := 43) rfl)
theorem cd_126_68 : mt_cd 126 68 = some (.lload 6) := mt_cd_of (q := (68, .lload 6, 2)) mq_126 ci_126 (List.mem_of_getElem? (i := 44) rfl)
theorem cd_126_70 : mt_cd 126 70 = some (.lsub) := mt_cd_of (q := (70, .lsub, 1)) mq_126 ci_126 (List.mem_of_getElem? (i := 45) rfl)
theorem cd_126_71 : mt_cd 126 71 = some (.lstore_n 3) := mt_cd_of (q := (71, .lstore_n 3, 1)) mq_126 ci_126 (List.mem_of_getElem? (i := 46) rfl)
theorem cd_126_72 : mt_cd 126 72 = some (.iinc 5 2) := mt_cd_of (q := (72, .iinc 5 2, 3)) mq_126 ci_126 (List.mem_of_getElem? (i := 47) rfl)
theorem cd_126_75 : mt_cd 126 75 = some (.goto (-64)) := mt_cd_of (q := (75, .goto (-64), 3)) mq_126 ci_126 (List.mem_of_getElem? (i := 48) rfl)
theorem cd_126_78 : mt_cd 126 78 = some (.lconst 0) := mt_cd_of (q := (78, .lconst 0, 1)) mq_126 ci_126 (List.mem_of_getElem? (i := 49) rfl)
theorem cd_126_79 : mt_cd 126 79 = some (.lreturn) := mt_cd_of (q := (79, .lreturn, 1)) mq_126 ci_126 (List.mem_of_getElem? (i := 50) rfl)
theorem b_126_0 {d : Nat} {Q : (Option Value ⊕ Nat) → mi_H → Prop} (n sl : Nat) (f : Nat → mi_C) {l1 : Nat} {l2 : Int32} {l3 : Int32} {o4 : Option Value} {o5 : Option Value} {o6 : Option Value} {o7 : Option Value} {o8 : Option Value} {fs9 : List Value} {x12 : Nat} (m14 i14 : Nat) (g14 : Nat → Int32) (h10 : f l1 = .inr (2, fs9)) (h11 : l1 < n) (h13 : fs9[5]? = some (.ref x12)) (h15 : f x12 = .inl (0, m14, .inl g14)) (h16 : x12 < n ∨ x12 = mi_SC) (h17 : mi_ix l2 m14 i14) (h18 : mi_W d 126 11 [some (.ref l1), some (.int l2), some (.int l3), some (.long ((l3 : Int32).toInt64)), none, some (.int (g14 i14)), o7, o8] [] (n, sl, f) Q) : mi_W d 126 0 [some (.ref l1), some (.int l2), some (.int l3), o4, o5, o6, o7, o8] [] (n, sl, f) Q := by
  refine w_iload_n cd_126_0 rfl ?_
  refine w_i2l cd_126_1 ?_
  refine w_lstore_n (ls' := [some (.ref l1), some (.int l2), some (.int l3), some (.long ((l3 : Int32).toInt64)), none, o6, o7, o8]) cd_126_2 (Nat.le_of_ble_eq_true rfl) rfl ?_
  refine w_aload_n cd_126_3 rfl ?_
  refine w_getfield cd_126_4 (show mt_f 2 27 = some (2, 5) by decide +kernel) h10 h11 h13 ?_
  refine w_iload_n cd_126_7 rfl ?_
  refine w_iaload cd_126_8 h15 h16 h17 ?_
  refine w_istore (ls' := [some (.ref l1), some (.int l2), some (.int l3), some (.long ((l3 : Int32).toInt64)), none, some (.int (g14 i14)), o7, o8]) cd_126_9 (Nat.le_of_ble_eq_true rfl) rfl ?_
  exact h18
theorem b_126_11 {d : Nat} {Q : (Option Value ⊕ Nat) → mi_H → Prop} (n sl : Nat) (f : Nat → mi_C) {l1 : Nat} {l2 : Int32} {l3 : Int32} {l4 : Int64} {l5 : Int32} {o6 : Option Value} {o7 : Option Value} (h8 : l5 < (0 : Int32) → mi_W d 126 78 [some (.ref l1), some (.int l2), some (.int l3), some (.long l4), none, some (.int l5), o6, o7] [] (n, sl, f) Q) (h9 : ¬ (l5 < (0 : Int32)) → mi_W d 126 16 [some (.ref l1), some (.int l2), some (.int l3), some (.long l4), none, some (.int l5), o6, o7] [] (n, sl, f) Q) : mi_W d 126 11 [some (.ref l1), some (.int l2), some (.int l3), some (.long l4), none, some (.int l5), o6, o7] [] (n, sl, f) Q := by
  refine w_iload cd_126_11 rfl ?_
  exact w_iflt cd_126_13 (by decide) h8 h9
theorem b_126_16 {d : Nat} {Q : (Option Value ⊕ Nat) → mi_H → Prop} (n sl : Nat) (f : Nat → mi_C) {l1 : Nat} {l2 : Int32} {l3 : Int32} {l4 : Int64} {l5 : Int32} {o6 : Option Value} {o7 : Option Value} {fs8 : List Value} {x11 : Nat} (m13 i13 : Nat) (g13 : Nat → Int32) (h9 : f l1 = .inr (2, fs8)) (h10 : l1 < n) (h12 : fs8[6]? = some (.ref x11)) (h14 : f x11 = .inl (0, m13, .inl g13)) (h15 : x11 < n ∨ x11 = mi_SC) (h16 : mi_ix l2 m13 i13) (h17 : (g13 i13) ≤ (l5 + 1) → mi_W d 126 78 [some (.ref l1), some (.int l2), some (.int l3), some (.long l4), none, some (.int l5), o6, o7] [] (n, sl, f) Q) (h18 : ¬ ((g13 i13) ≤ (l5 + 1)) → mi_W d 126 29 [some (.ref l1), some (.int l2), some (.int l3), some (.long l4), none, some (.int l5), o6, o7] [] (n, sl, f) Q) : mi_W d 126 16 [some (.ref l1), some (.int l2), some (.int l3), some (.long l4), none, some (.int l5), o6, o7] [] (n, sl, f) Q := by
  refine w_iload cd_126_16 rfl ?_
  refine w_iconst (v := 1) cd_126_18 (by decide) ?_
  refine w_iadd cd_126_19 ?_
  refine w_aload_n cd_126_20 rfl ?_
  refine w_getfield cd_126_21 (show mt_f 2 30 = some (2, 6) by decide +kernel) h9 h10 h12 ?_
  refine w_iload_n cd_126_24 rfl ?_
  refine w_iaload cd_126_25 h14 h15 h16 ?_
  exact w_if_icmpge cd_126_26 (by decide) h17 h18
theorem b_126_29 {d : Nat} {Q : (Option Value ⊕ Nat) → mi_H → Prop} (n sl : Nat) (f : Nat → mi_C) {l1 : Nat} {l2 : Int32} {l3 : Int32} {l4 : Int64} {l5 : Int32} {o6 : Option Value} {o7 : Option Value} {fs8 : List Value} {x11 : Nat} (m13 i13 : Nat) (g13 : Nat → Int64) {fs17 : List Value} {x20 : Nat} (m22 i22 : Nat) (g22 : Nat → Int64) (h9 : f l1 = .inr (2, fs8)) (h10 : l1 < n) (h12 : fs8[10]? = some (.ref x11)) (h14 : f x11 = .inl (3, m13, .inr (.inl g13))) (h15 : x11 < n) (h16 : mi_ix (l5 + 1) m13 i13) (h18 : f l1 = .inr (2, fs17)) (h19 : l1 < n) (h21 : fs17[10]? = some (.ref x20)) (h23 : f x20 = .inl (3, m22, .inr (.inl g22))) (h24 : x20 < n) (h25 : mi_ix l5 m22 i22) (h26 : (0 : Int32) ≤ (lg_cmp l4 (((g13 i13) - (g22 i22)) + 1)) → mi_W d 126 67 [some (.ref l1), some (.int l2), some (.int l3), some (.long l4), none, some (.int l5), some (.long (((g13 i13) - (g22 i22)) + 1)), none] [] (n, sl, f) Q) (h27 : ¬ ((0 : Int32) ≤ (lg_cmp l4 (((g13 i13) - (g22 i22)) + 1))) → mi_W d 126 57 [some (.ref l1), some (.int l2), some (.int l3), some (.long l4), none, some (.int l5), some (.long (((g13 i13) - (g22 i22)) + 1)), none] [] (n, sl, f) Q) : mi_W d 126 29 [some (.ref l1), some (.int l2), some (.int l3), some (.long l4), none, some (.int l5), o6, o7] [] (n, sl, f) Q := by
  refine w_aload_n cd_126_29 rfl ?_
  refine w_getfield cd_126_30 (show mt_f 2 44 = some (2, 10) by decide +kernel) h9 h10 h12 ?_
  refine w_iload cd_126_33 rfl ?_
  refine w_iconst (v := 1) cd_126_35 (by decide) ?_
  refine w_iadd cd_126_36 ?_
  refine w_laload cd_126_37 h14 h15 h16 ?_
  refine w_aload_n cd_126_38 rfl ?_
  refine w_getfield cd_126_39 (show mt_f 2 44 = some (2, 10) by decide +kernel) h18 h19 h21 ?_
  refine w_iload cd_126_42 rfl ?_
  refine w_laload cd_126_44 h23 h24 h25 ?_
  refine w_lsub cd_126_45 ?_
  refine w_lconst (lv := 1) cd_126_46 (by decide) ?_
  refine w_ladd cd_126_47 ?_
  refine w_lstore (ls' := [some (.ref l1), some (.int l2), some (.int l3), some (.long l4), none, some (.int l5), some (.long (((g13 i13) - (g22 i22)) + 1)), none]) cd_126_48 (Nat.le_of_ble_eq_true rfl) rfl ?_
  refine w_lload_n cd_126_50 rfl ?_
  refine w_lload cd_126_51 rfl ?_
  refine w_lcmp cd_126_53 ?_
  exact w_ifge cd_126_54 (by decide) h26 h27
theorem b_126_57 {d : Nat} {Q : (Option Value ⊕ Nat) → mi_H → Prop} (n sl : Nat) (f : Nat → mi_C) {l1 : Nat} {l2 : Int32} {l3 : Int32} {l4 : Int64} {l5 : Int32} {l6 : Int64} {fs7 : List Value} {x10 : Nat} (m12 i12 : Nat) (g12 : Nat → Int64) (h8 : f l1 = .inr (2, fs7)) (h9 : l1 < n) (h11 : fs7[10]? = some (.ref x10)) (h13 : f x10 = .inl (3, m12, .inr (.inl g12))) (h14 : x10 < n) (h15 : mi_ix l5 m12 i12) (h16 : Q (.inl (some (.long ((g12 i12) + l4)))) (n, sl, f)) : mi_W d 126 57 [some (.ref l1), some (.int l2), some (.int l3), some (.long l4), none, some (.int l5), some (.long l6), none] [] (n, sl, f) Q := by
  refine w_aload_n cd_126_57 rfl ?_
  refine w_getfield cd_126_58 (show mt_f 2 44 = some (2, 10) by decide +kernel) h8 h9 h11 ?_
  refine w_iload cd_126_61 rfl ?_
  refine w_laload cd_126_63 h13 h14 h15 ?_
  refine w_lload_n cd_126_64 rfl ?_
  refine w_ladd cd_126_65 ?_
  exact w_lreturn cd_126_66 (by decide +kernel) h16
theorem b_126_67 {d : Nat} {Q : (Option Value ⊕ Nat) → mi_H → Prop} (n sl : Nat) (f : Nat → mi_C) {l1 : Nat} {l2 : Int32} {l3 : Int32} {l4 : Int64} {l5 : Int32} {l6 : Int64} (h7 : mi_W d 126 11 [some (.ref l1), some (.int l2), some (.int l3), some (.long (l4 - l6)), none, some (.int (l5 + 2)), some (.long l6), none] [] (n, sl, f) Q) : mi_W d 126 67 [some (.ref l1), some (.int l2), some (.int l3), some (.long l4), none, some (.int l5), some (.long l6), none] [] (n, sl, f) Q := by
  refine w_lload_n cd_126_67 rfl ?_
  refine w_lload cd_126_68 rfl ?_
  refine w_lsub cd_126_70 ?_
  refine w_lstore_n (ls' := [some (.ref l1), some (.int l2), some (.int l3), some (.long (l4 - l6)), none, some (.int l5), some (.long l6), none]) cd_126_71 (Nat.le_of_ble_eq_true rfl) rfl ?_
  refine w_iinc (v := 2) (ls' := [some (.ref l1), some (.int l2), some (.int l3), some (.long (l4 - l6)), none, some (.int (l5 + 2)), some (.long l6), none]) cd_126_72 rfl (by decide) rfl ?_
  exact w_goto cd_126_75 (by decide) h7
theorem b_126_78 {d : Nat} {Q : (Option Value ⊕ Nat) → mi_H → Prop} (n sl : Nat) (f : Nat → mi_C) {l1 : Nat} {l2 : Int32} {l3 : Int32} {l4 : Int64} {l5 : Int32} {o6 : Option Value} {o7 : Option Value} (h8 : Q (.inl (some (.long 0))) (n, sl, f)) : mi_W d 126 78 [some (.ref l1), some (.int l2), some (.int l3), some (.long l4), none, some (.int l5), o6, o7] [] (n, sl, f) Q := by
  refine w_lconst (lv := 0) cd_126_78 (by decide) ?_
  exact w_lreturn cd_126_79 (by decide +kernel) h8
/-! MarloweHost$Analyser.takeStep(I)Z -/
set_option maxRecDepth 100000 in
theorem mq_127 : mt_q 127 = my_127 := rfl
set_option maxRecDepth 100000 in
theorem ci_127 : mt_inc 0 my_127.cd = true := by decide +kernel
theorem cd_127_0 : mt_cd 127 0 = some (.aload_n 0) := mt_cd_of (q := (0, .aload_n 0, 1)) mq_127 ci_127 (List.mem_of_getElem? (i := 0) rfl)
theorem cd_127_1 : mt_cd 127 1 = some (.getfield 31) := mt_cd_of (q := (1, .getfield 31, 3)) mq_127 ci_127 (List.mem_of_getElem? (i := 1) rfl)
theorem cd_127_4 : mt_cd 127 4 = some (.iload_n 1) := mt_cd_of (q := (4, .iload_n 1, 1)) mq_127 ci_127 (List.mem_of_getElem? (i := 2) rfl)
theorem cd_127_5 : mt_cd 127 5 = some (.iaload) := mt_cd_of (q := (5, .iaload, 1)) mq_127 ci_127 (List.mem_of_getElem? (i := 3) rfl)
theorem cd_127_6 : mt_cd 127 6 = some (.istore_n 2) := mt_cd_of (q := (6, .istore_n 2, 1)) mq_127 ci_127 (List.mem_of_getElem? (i := 4) rfl)
theorem cd_127_7 : mt_cd 127 7 = some (.iload_n 2) := mt_cd_of (q := (7, .iload_n 2, 1)) mq_127 ci_127 (List.mem_of_getElem? (i := 5) rfl)
theorem cd_127_8 : mt_cd 127 8 = some (.iconst 1) := mt_cd_of (q := (8, .iconst 1, 1)) mq_127 ci_127 (List.mem_of_getElem? (i := 6) rfl)
theorem cd_127_9 : mt_cd 127 9 = some (.if_icmp .ne 15) := mt_cd_of (q := (9, .if_icmp .ne 15, 3)) mq_127 ci_127 (List.mem_of_getElem? (i := 7) rfl)
theorem cd_127_12 : mt_cd 127 12 = some (.aload_n 0) := mt_cd_of (q := (12, .aload_n 0, 1)) mq_127 ci_127 (List.mem_of_getElem? (i := 8) rfl)
theorem cd_127_13 : mt_cd 127 13 = some (.getfield 60) := mt_cd_of (q := (13, .getfield 60, 3)) mq_127 ci_127 (List.mem_of_getElem? (i := 9) rfl)
theorem cd_127_16 : mt_cd 127 16 = some (.getfield 151) := mt_cd_of (q := (16, .getfield 151, 3)) mq_127 ci_127 (List.mem_of_getElem? (i := 10) rfl)
theorem cd_127_19 : mt_cd 127 19 = some (.ifCond .eq 5) := mt_cd_of (q := (19, .ifCond .eq 5, 3)) mq_127 ci_127 (List.mem_of_getElem? (i := 11) rfl)
theorem cd_127_22 : mt_cd 127 22 = some (.iconst 0) := mt_cd_of (q := (22, .iconst 0, 1)) mq_127 ci_127 (List.mem_of_getElem? (i := 12) rfl)
theorem cd_127_23 : mt_cd 127 23 = some (.ireturn) := mt_cd_of (q := (23, .ireturn, 1)) mq_127 ci_127 (List.mem_of_getElem? (i := 13) rfl)
theorem cd_127_24 : mt_cd 127 24 = some (.aload_n 0) := mt_cd_of (q := (24, .aload_n 0, 1)) mq_127 ci_127 (List.mem_of_getElem? (i := 14) rfl)
theorem cd_127_25 : mt_cd 127 25 = some (.getfield 20) := mt_cd_of (q := (25, .getfield 20, 3)) mq_127 ci_127 (List.mem_of_getElem? (i := 15) rfl)
theorem cd_127_28 : mt_cd 127 28 = some (.iload_n 1) := mt_cd_of (q := (28, .iload_n 1, 1)) mq_127 ci_127 (List.mem_of_getElem? (i := 16) rfl)
theorem cd_127_29 : mt_cd 127 29 = some (.iconst 1) := mt_cd_of (q := (29, .iconst 1, 1)) mq_127 ci_127 (List.mem_of_getElem? (i := 17) rfl)
theorem cd_127_30 : mt_cd 127 30 = some (.iadd) := mt_cd_of (q := (30, .iadd, 1)) mq_127 ci_127 (List.mem_of_getElem? (i := 18) rfl)
theorem cd_127_31 : mt_cd 127 31 = some (.aaload) := mt_cd_of (q := (31, .aaload, 1)) mq_127 ci_127 (List.mem_of_getElem? (i := 19) rfl)
theorem cd_127_32 : mt_cd 127 32 = some (.astore_n 3) := mt_cd_of (q := (32, .astore_n 3, 1)) mq_127 ci_127 (List.mem_of_getElem? (i := 20) rfl)
theorem cd_127_33 : mt_cd 127 33 = some (.aload_n 3) := mt_cd_of (q := (33, .aload_n 3, 1)) mq_127 ci_127 (List.mem_of_getElem? (i := 21) rfl)
theorem cd_127_34 : mt_cd 127 34 = some (.aload_n 0) := mt_cd_of (q := (34, .aload_n 0, 1)) mq_127 ci_127 (List.mem_of_getElem? (i := 22) rfl)
theorem cd_127_35 : mt_cd 127 35 = some (.getfield 20) := mt_cd_of (q := (35, .getfield 20, 3)) mq_127 ci_127 (List.mem_of_getElem? (i := 23) rfl)
theorem cd_127_38 : mt_cd 127 38 = some (.iload_n 1) := mt_cd_of (q := (38, .iload_n 1, 1)) mq_127 ci_127 (List.mem_of_getElem? (i := 24) rfl)
theorem cd_127_39 : mt_cd 127 39 = some (.aaload) := mt_cd_of (q := (39, .aaload, 1)) mq_127 ci_127 (List.mem_of_getElem? (i := 25) rfl)
theorem cd_127_40 : mt_cd 127 40 = some (.invokevirtual 80) := mt_cd_of (q := (40, .invokevirtual 80, 3)) mq_127 ci_127 (List.mem_of_getElem? (i := 26) rfl)
theorem cd_127_43 : mt_cd 127 43 = some (.iload_n 2) := mt_cd_of (q := (43, .iload_n 2, 1)) mq_127 ci_127 (List.mem_of_getElem? (i := 27) rfl)
theorem cd_127_44 : mt_cd 127 44 = some (.iconst 4) := mt_cd_of (q := (44, .iconst 4, 1)) mq_127 ci_127 (List.mem_of_getElem? (i := 28) rfl)
theorem cd_127_45 : mt_cd 127 45 = some (.if_icmp .ne 12) := mt_cd_of (q := (45, .if_icmp .ne 12, 3)) mq_127 ci_127 (List.mem_of_getElem? (i := 29) rfl)
theorem cd_127_48 : mt_cd 127 48 = some (.aload_n 0) := mt_cd_of (q := (48, .aload_n 0, 1)) mq_127 ci_127 (List.mem_of_getElem? (i := 30) rfl)
theorem cd_127_49 : mt_cd 127 49 = some (.getfield 34) := mt_cd_of (q := (49, .getfield 34, 3)) mq_127 ci_127 (List.mem_of_getElem? (i := 31) rfl)
theorem cd_127_52 : mt_cd 127 52 = some (.iload_n 1) := mt_cd_of (q := (52, .iload_n 1, 1)) mq_127 ci_127 (List.mem_of_getElem? (i := 32) rfl)
theorem cd_127_53 : mt_cd 127 53 = some (.laload) := mt_cd_of (q := (53, .laload, 1)) mq_127 ci_127 (List.mem_of_getElem? (i := 33) rfl)
theorem cd_127_54 : mt_cd 127 54 = some (.goto 7) := mt_cd_of (q := (54, .goto 7, 3)) mq_127 ci_127 (List.mem_of_getElem? (i := 34) rfl)
theorem cd_127_57 : mt_cd 127 57 = some (.aload_n 3) := mt_cd_of (q := (57, .aload_n 3, 1)) mq_127 ci_127 (List.mem_of_getElem? (i := 35) rfl)
theorem cd_127_58 : mt_cd 127 58 = some (.getfield 124) := mt_cd_of (q := (58, .getfield 124, 3)) mq_127 ci_127 (List.mem_of_getElem? (i := 36) rfl)
theorem cd_127_61 : mt_cd 127 61 = some (.lstore 4) := mt_cd_of (q := (61, .lstore 4, 2)) mq_127 ci_127 (List.mem_of_getElem? (i := 37) rfl)
theorem cd_127_63 : mt_cd 127 63 = some (.aload_n 0) := mt_cd_of (q := (63, .aload_n 0, 1)) mq_127 ci_127 (List.mem_of_getElem? (i := 38) rfl)
theorem cd_127_64 : mt_cd 127 64 = some (.aload_n 0) := mt_cd_of (q := (64, .aload_n 0, 1)) mq_127 ci_127 (List.mem_of_getElem? (i := 39) rfl)
theorem cd_127_65 : mt_cd 127 65 = some (.getfield 38) := mt_cd_of (q := (65, .getfield 38, 3)) mq_127 ci_127 (List.mem_of_getElem? (i := 40) rfl)
theorem cd_127_68 : mt_cd 127 68 = some (.iload_n 1) := mt_cd_of (q := (68, .iload_n 1, 1)) mq_127 ci_127 (List.mem_of_getElem? (i := 41) rfl)
theorem cd_127_69 : mt_cd 127 69 = some (.iaload) := mt_cd_of (q := (69, .iaload, 1)) mq_127 ci_127 (List.mem_of_getElem? (i := 42) rfl)
theorem cd_127_70 : mt_cd 127 70 = some (.aload_n 0) := mt_cd_of (q := (70, .aload_n 0, 1)) mq_127 ci_127 (List.mem_of_getElem? (i := 43) rfl)
theorem cd_127_71 : mt_cd 127 71 = some (.getfield 34) := mt_cd_of (q := (71, .getfield 34, 3)) mq_127 ci_127 (List.mem_of_getElem? (i := 44) rfl)
theorem cd_127_74 : mt_cd 127 74 = some (.iload_n 1) := mt_cd_of (q := (74, .iload_n 1, 1)) mq_127 ci_127 (List.mem_of_getElem? (i := 45) rfl)
theorem cd_127_75 : mt_cd 127 75 = some (.laload) := mt_cd_of (q := (75, .laload, 1)) mq_127 ci_127 (List.mem_of_getElem? (i := 46) rfl)
theorem cd_127_76 : mt_cd 127 76 = some (.invokevirtual 155) := mt_cd_of (q := (76, .invokevirtual 155, 3)) mq_127 ci_127 (List.mem_of_getElem? (i := 47) rfl)
theorem cd_127_79 : mt_cd 127 79 = some (.aload_n 0) := mt_cd_of (q := (79, .aload_n 0, 1)) mq_127 ci_127 (List.mem_of_getElem? (i := 48) rfl)
theorem cd_127_80 : mt_cd 127 80 = some (.getfield 50) := mt_cd_of (q := (80, .getfield 50, 3)) mq_127 ci_127 (List.mem_of_getElem? (i := 49) rfl)
theorem cd_127_83 : mt_cd 127 83 = some (.aload_n 3) := mt_cd_of (q := (83, .aload_n 3, 1)) mq_127 ci_127 (List.mem_of_getElem? (i := 50) rfl)
theorem cd_127_84 : mt_cd 127 84 = some (.aload_n 0) := mt_cd_of (q := (84, .aload_n 0, 1)) mq_127 ci_127 (List.mem_of_getElem? (i := 51) rfl)
theorem cd_127_85 : mt_cd 127 85 = some (.getfield 12) := mt_cd_of (q := (85, .getfield 12, 3)) mq_127 ci_127 (List.mem_of_getElem? (i := 52) rfl)
theorem cd_127_88 : mt_cd 127 88 = some (.lload 4) := mt_cd_of (q := (88, .lload 4, 2)) mq_127 ci_127 (List.mem_of_getElem? (i := 53) rfl)
theorem cd_127_90 : mt_cd 127 90 = some (.lload 4) := mt_cd_of (q := (90, .lload 4, 2)) mq_127 ci_127 (List.mem_of_getElem? (i := 54) rfl)
theorem cd_127_92 : mt_cd 127 92 = some (.invokevirtual 159) := mt_cd_of (q := (92, .invokevirtual 159, 3)) mq_127 ci_127 (List.mem_of_getElem? (i := 55) rfl)
theorem cd_127_95 : mt_cd 127 95 = some (.ifCond .ne 7) := mt_cd_of (q := (95, .ifCond .ne 7, 3)) mq_127 ci_127 (List.mem_of_getElem? (i := 56) rfl)
theorem cd_127_98 : mt_cd 127 98 = some (.iconst 1) := mt_cd_of (q := (98, .iconst 1, 1)) mq_127 ci_127 (List.mem_of_getElem? (i := 57) rfl)
theorem cd_127_99 : mt_cd 127 99 = some (.goto 4) := mt_cd_of (q := (99, .goto 4, 3)) mq_127 ci_127 (List.mem_of_getElem? (i := 58) rfl)
theorem cd_127_102 : mt_cd 127 102 = some (.iconst 0) := mt_cd_of (q := (102, .iconst 0, 1)) mq_127 ci_127 (List.mem_of_getElem? (i := 59) rfl)
theorem cd_127_103 : mt_cd 127 103 = some (.ireturn) := mt_cd_of (q := (103, .ireturn, 1)) mq_127 ci_127 (List.mem_of_getElem? (i := 60) rfl)
theorem b_127_0 {d : Nat} {Q : (Option Value ⊕ Nat) → mi_H → Prop} (n sl : Nat) (f : Nat → mi_C) {l1 : Nat} {l2 : Int32} {o3 : Option Value} {o4 : Option Value} {o5 : Option Value} {o6 : Option Value} {fs7 : List Value} {x10 : Nat} (m12 i12 : Nat) (g12 : Nat → Int32) (h8 : f l1 = .inr (11, fs7)) (h9 : l1 < n) (h11 : fs7[7]? = some (.ref x10)) (h13 : f x10 = .inl (0, m12, .inl g12)) (h14 : x10 < n ∨ x10 = mi_SC) (h15 : mi_ix l2 m12 i12) (h16 : ¬ (g12 i12) = 1 → mi_W d 127 24 [some (.ref l1), some (.int l2), some (.int (g12 i12)), o4, o5, o6] [] (n, sl, f) Q) (h17 : ¬ (¬ (g12 i12) = 1) → mi_W d 127 12 [some (.ref l1), some (.int l2), some (.int (g12 i12)), o4, o5, o6] [] (n, sl, f) Q) : mi_W d 127 0 [some (.ref l1), some (.int l2), o3, o4, o5, o6] [] (n, sl, f) Q := by
  refine w_aload_n cd_127_0 rfl ?_
  refine w_getfield cd_127_1 (show mt_f 11 31 = some (11, 7) by decide +kernel) h8 h9 h11 ?_
  refine w_iload_n cd_127_4 rfl ?_
  refine w_iaload cd_127_5 h13 h14 h15 ?_
  refine w_istore_n (ls' := [some (.ref l1), some (.int l2), some (.int (g12 i12)), o4, o5, o6]) cd_127_6 (Nat.le_of_ble_eq_true rfl) rfl ?_
  refine w_iload_n cd_127_7 rfl ?_
  refine w_iconst (v := 1) cd_127_8 (by decide) ?_
  exact w_if_icmpne cd_127_9 (by decide) h16 h17
theorem b_127_12 {d : Nat} {Q : (Option Value ⊕ Nat) → mi_H → Prop} (n sl : Nat) (f : Nat → mi_C) {l1 : Nat} {l2 : Int32} {l3 : Int32} {o4 : Option Value} {o5 : Option Value} {o6 : Option Value} {fs7 : List Value} {x10 : Nat} {fs12 : List Value} {x15 : Int32} (h8 : f l1 = .inr (11, fs7)) (h9 : l1 < n) (h11 : fs7[2]? = some (.ref x10)) (h13 : f x10 = .inr (10, fs12)) (h14 : x10 < n) (h16 : fs12[4]? = some (.int x15)) (h17 : x15 = (0 : Int32) → mi_W d 127 24 [some (.ref l1), some (.int l2), some (.int l3), o4, o5, o6] [] (n, sl, f) Q) (h18 : ¬ (x15 = (0 : Int32)) → mi_W d 127 22 [some (.ref l1), some (.int l2), some (.int l3), o4, o5, o6] [] (n, sl, f) Q) : mi_W d 127 12 [some (.ref l1), some (.int l2), some (.int l3), o4, o5, o6] [] (n, sl, f) Q := by
  refine w_aload_n cd_127_12 rfl ?_
  refine w_getfield cd_127_13 (show mt_f 11 60 = some (11, 2) by decide +kernel) h8 h9 h11 ?_
  refine w_getfield cd_127_16 (show mt_f 11 151 = some (10, 4) by decide +kernel) h13 h14 h16 ?_
  exact w_ifeq cd_127_19 (by decide) h17 h18
theorem b_127_22 {d : Nat} {Q : (Option Value ⊕ Nat) → mi_H → Prop} (n sl : Nat) (f : Nat → mi_C) {l1 : Nat} {l2 : Int32} {l3 : Int32} {o4 : Option Value} {o5 : Option Value} {o6 : Option Value} (h7 : Q (.inl (some (.int 0))) (n, sl, f)) : mi_W d 127 22 [some (.ref l1), some (.int l2), some (.int l3), o4, o5, o6] [] (n, sl, f) Q := by
  refine w_iconst (v := 0) cd_127_22 (by decide) ?_
  exact w_ireturn_z cd_127_23 (by decide +kernel) (by decide) h7
theorem b_127_24 {d : Nat} {Q : (Option Value ⊕ Nat) → mi_H → Prop} (n sl : Nat) (f : Nat → mi_C) {l1 : Nat} {l2 : Int32} {l3 : Int32} {o4 : Option Value} {o5 : Option Value} {o6 : Option Value} {fs7 : List Value} {x10 : Nat} (m12 i12 ka12 : Nat) (g12 : Nat → Option Nat) {x17 : Nat} {fs19 : List Value} {x22 : Nat} (m24 i24 ka24 : Nat) (g24 : Nat → Option Nat) {x29 : Nat} {fs31 : List Value} (h8 : f l1 = .inr (11, fs7)) (h9 : l1 < n) (h11 : fs7[4]? = some (.ref x10)) (h13 : f x10 = .inl (ka12, m12, .inr (.inr (.inr (.inr g12))))) (h14 : x10 < n) (h15 : 4 ≤ ka12 ∧ ka12 < mt_na) (h16 : mi_ix (l2 + 1) m12 i12) (h18 : g12 i12 = some x17) (h20 : f l1 = .inr (11, fs19)) (h21 : l1 < n) (h23 : fs19[4]? = some (.ref x22)) (h25 : f x22 = .inl (ka24, m24, .inr (.inr (.inr (.inr g24))))) (h26 : x22 < n) (h27 : 4 ≤ ka24 ∧ ka24 < mt_na) (h28 : mi_ix l2 m24 i24) (h30 : g24 i24 = some x29) (h32 : f x17 = .inr (9, fs31)) (h33 : x17 < n) (h34 : mi_W d 71 0 (mi_en 2 [.ref x17, .ref x29]) [] (n, sl, f) (mi_Kc d 127 40 [some (.ref l1), some (.int l2), some (.int l3), some (.ref x17), o5, o6] [] Q)) : mi_W (d + 1) 127 24 [some (.ref l1), some (.int l2), some (.int l3), o4, o5, o6] [] (n, sl, f) Q := by
  refine w_aload_n cd_127_24 rfl ?_
  refine w_getfield cd_127_25 (show mt_f 11 20 = some (11, 4) by decide +kernel) h8 h9 h11 ?_
  refine w_iload_n cd_127_28 rfl ?_
  refine w_iconst (v := 1) cd_127_29 (by decide) ?_
  refine w_iadd cd_127_30 ?_
  refine w_aaload (w := .ref x17) cd_127_31 h13 h14 h15 h16 (by rw [h18]; rfl) ?_
  refine w_astore_n (ls' := [some (.ref l1), some (.int l2), some (.int l3), some (.ref x17), o5, o6]) cd_127_32 (Nat.le_of_ble_eq_true rfl) rfl ?_
  refine w_aload_n cd_127_33 rfl ?_
  refine w_aload_n cd_127_34 rfl ?_
  refine w_getfield cd_127_35 (show mt_f 11 20 = some (11, 4) by decide +kernel) h20 h21 h23 ?_
  refine w_iload_n cd_127_38 rfl ?_
  refine w_aaload (w := .ref x29) cd_127_39 h25 h26 h27 h28 (by rw [h30]; rfl) ?_
  exact w_invokevirtual cd_127_40 (show mt_m 11 80 = some (71, 0) by decide +kernel) (rest := []) rfl (as := [.ref x17, .ref x29]) rfl h32 (Or.inl h33) ⟨Nat.le_of_ble_eq_true rfl, Nat.le_of_ble_eq_true rfl, Nat.le_of_ble_eq_true rfl⟩ h34
theorem b_127_43 {d : Nat} {Q : (Option Value ⊕ Nat) → mi_H → Prop} (n sl : Nat) (f : Nat → mi_C) {l1 : Nat} {l2 : Int32} {l3 : Int32} {l4 : Nat} {o5 : Option Value} {o6 : Option Value} (h7 : ¬ l3 = 4 → mi_W d 127 57 [some (.ref l1), some (.int l2), some (.int l3), some (.ref l4), o5, o6] [] (n, sl, f) Q) (h8 : ¬ (¬ l3 = 4) → mi_W d 127 48 [some (.ref l1), some (.int l2), some (.int l3), some (.ref l4), o5, o6] [] (n, sl, f) Q) : mi_W d 127 43 [some (.ref l1), some (.int l2), some (.int l3), some (.ref l4), o5, o6] [] (n, sl, f) Q := by
  refine w_iload_n cd_127_43 rfl ?_
  refine w_iconst (v := 4) cd_127_44 (by decide) ?_
  exact w_if_icmpne cd_127_45 (by decide) h7 h8
theorem b_127_48 {d : Nat} {Q : (Option Value ⊕ Nat) → mi_H → Prop} (n sl : Nat) (f : Nat → mi_C) {l1 : Nat} {l2 : Int32} {l3 : Int32} {l4 : Nat} {o5 : Option Value} {o6 : Option Value} {fs7 : List Value} {x10 : Nat} (m12 i12 : Nat) (g12 : Nat → Int64) (h8 : f l1 = .inr (11, fs7)) (h9 : l1 < n) (h11 : fs7[8]? = some (.ref x10)) (h13 : f x10 = .inl (3, m12, .inr (.inl g12))) (h14 : x10 < n) (h15 : mi_ix l2 m12 i12) (h16 : mi_W d 127 61 [some (.ref l1), some (.int l2), some (.int l3), some (.ref l4), o5, o6] [.long (g12 i12)] (n, sl, f) Q) : mi_W d 127 48 [some (.ref l1), some (.int l2), some (.int l3), some (.ref l4), o5, o6] [] (n, sl, f) Q := by
  refine w_aload_n cd_127_48 rfl ?_
  refine w_getfield cd_127_49 (show mt_f 11 34 = some (11, 8) by decide +kernel) h8 h9 h11 ?_
  refine w_iload_n cd_127_52 rfl ?_
  refine w_laload cd_127_53 h13 h14 h15 ?_
  exact w_goto cd_127_54 (by decide) h16
theorem b_127_57 {d : Nat} {Q : (Option Value ⊕ Nat) → mi_H → Prop} (n sl : Nat) (f : Nat → mi_C) {l1 : Nat} {l2 : Int32} {l3 : Int32} {l4 : Nat} {o5 : Option Value} {o6 : Option Value} {fs7 : List Value} {x10 : Int64} (h8 : f l4 = .inr (9, fs7)) (h9 : l4 < n) (h11 : fs7[1]? = some (.long x10)) (h12 : mi_W d 127 61 [some (.ref l1), some (.int l2), some (.int l3), some (.ref l4), o5, o6] [.long x10] (n, sl, f) Q) : mi_W d 127 57 [some (.ref l1), some (.int l2), some (.int l3), some (.ref l4), o5, o6] [] (n, sl, f) Q := by
  refine w_aload_n cd_127_57 rfl ?_
  refine w_getfield cd_127_58 (show mt_f 11 124 = some (9, 1) by decide +kernel) h8 h9 h11 ?_
  exact h12
theorem b_127_61 {d : Nat} {Q : (Option Value ⊕ Nat) → mi_H → Prop} (n sl : Nat) (f : Nat → mi_C) {l1 : Nat} {l2 : Int32} {l3 : Int32} {l4 : Nat} {o5 : Option Value} {o6 : Option Value} {s7 : Int64} {fs8 : List Value} {x11 : Nat} (m13 i13 : Nat) (g13 : Nat → Int32) {fs17 : List Value} {x20 : Nat} (m22 i22 : Nat) (g22 : Nat → Int64) {fs26 : List Value} (h9 : f l1 = .inr (11, fs8)) (h10 : l1 < n) (h12 : fs8[9]? = some (.ref x11)) (h14 : f x11 = .inl (0, m13, .inl g13)) (h15 : x11 < n ∨ x11 = mi_SC) (h16 : mi_ix l2 m13 i13) (h18 : f l1 = .inr (11, fs17)) (h19 : l1 < n) (h21 : fs17[8]? = some (.ref x20)) (h23 : f x20 = .inl (3, m22, .inr (.inl g22))) (h24 : x20 < n) (h25 : mi_ix l2 m22 i22) (h27 : f l1 = .inr (11, fs26)) (h28 : l1 < n) (h29 : mi_W d 128 0 (mi_en 4 [.ref l1, .int (g13 i13), .long (g22 i22)]) [] (n, sl, f) (mi_Kc d 127 76 [some (.ref l1), some (.int l2), some (.int l3), some (.ref l4), some (.long s7), none] [] Q)) : mi_W (d + 1) 127 61 [some (.ref l1), some (.int l2), some (.int l3), some (.ref l4), o5, o6] [.long s7] (n, sl, f) Q := by
  refine w_lstore (ls' := [some (.ref l1), some (.int l2), some (.int l3), some (.ref l4), some (.long s7), none]) cd_127_61 (Nat.le_of_ble_eq_true rfl) rfl ?_
  refine w_aload_n cd_127_63 rfl ?_
  refine w_aload_n cd_127_64 rfl ?_
  refine w_getfield cd_127_65 (show mt_f 11 38 = some (11, 9) by decide +kernel) h9 h10 h12 ?_
  refine w_iload_n cd_127_68 rfl ?_
  refine w_iaload cd_127_69 h14 h15 h16 ?_
  refine w_aload_n cd_127_70 rfl ?_
  refine w_getfield cd_127_71 (show mt_f 11 34 = some (11, 8) by decide +kernel) h18 h19 h21 ?_
  refine w_iload_n cd_127_74 rfl ?_
  refine w_laload cd_127_75 h23 h24 h25 ?_
  exact w_invokevirtual cd_127_76 (show mt_m 11 155 = some (128, 0) by decide +kernel) (rest := []) rfl (as := [.ref l1, .int (g13 i13), .long (g22 i22)]) rfl h27 (Or.inl h28) ⟨Nat.le_of_ble_eq_true rfl, Nat.le_of_ble_eq_true rfl, Nat.le_of_ble_eq_true rfl⟩ h29
theorem b_127_79 {d : Nat} {Q : (Option Value ⊕ Nat) → mi_H → Prop} (n sl : Nat) (f : Nat → mi_C) {l1 : Nat} {l2 : Int32} {l3 : Int32} {l4 : Nat} {l5 : Int64} {fs6 : List Value} {x9 : Nat} {fs11 : List Value} {x14 : Nat} {fs16 : List Value} (h7 : f l1 = .inr (11, fs6)) (h8 : l1 < n) (h10 : fs6[1]? = some (.ref x9)) (h12 : f l1 = .inr (11, fs11)) (h13 : l1 < n) (h15 : fs11[3]? = some (.ref x14)) (h17 : f x9 = .inr (7, fs16)) (h18 : x9 < n) (h19 : mi_W d 72 0 (mi_en 8 [.ref x9, .ref l4, .ref x14, .long l5, .long l5]) [] (n, sl, f) (mi_Kc d 127 92 [some (.ref l1), some (.int l2), some (.int l3), some (.ref l4), some (.long l5), none] [] Q)) : mi_W (d + 1) 127 79 [some (.ref l1), some (.int l2), some (.int l3), some (.ref l4), some (.long l5), none] [] (n, sl, f) Q := by
  refine w_aload_n cd_127_79 rfl ?_
  refine w_getfield cd_127_80 (show mt_f 11 50 = some (11, 1) by decide +kernel) h7 h8 h10 ?_
  refine w_aload_n cd_127_83 rfl ?_
  refine w_aload_n cd_127_84 rfl ?_
  refine w_getfield cd_127_85 (show mt_f 11 12 = some (11, 3) by decide +kernel) h12 h13 h15 ?_
  refine w_lload cd_127_88 rfl ?_
  refine w_lload cd_127_90 rfl ?_
  exact w_invokevirtual cd_127_92 (show mt_m 11 159 = some (72, 0) by decide +kernel) (rest := []) rfl (as := [.ref x9, .ref l4, .ref x14, .long l5, .long l5]) rfl h17 (Or.inl h18) ⟨Nat.le_of_ble_eq_true rfl, Nat.le_of_ble_eq_true rfl, Nat.le_of_ble_eq_true rfl⟩ h19
theorem b_127_95 {d : Nat} {Q : (Option Value ⊕ Nat) → mi_H → Prop} (n sl : Nat) (f : Nat → mi_C) {l1 : Nat} {l2 : Int32} {l3 : Int32} {l4 : Nat} {l5 : Int64} {s6 : Int32} (h7 : ¬ s6 = (0 : Int32) → mi_W d 127 102 [some (.ref l1), some (.int l2), some (.int l3), some (.ref l4), some (.long l5), none] [] (n, sl, f) Q) (h8 : ¬ (¬ s6 = (0 : Int32)) → mi_W d 127 98 [some (.ref l1), some (.int l2), some (.int l3), some (.ref l4), some (.long l5), none] [] (n, sl, f) Q) : mi_W d 127 95 [some (.ref l1), some (.int l2), some (.int l3), some (.ref l4), some (.long l5), none] [.int s6] (n, sl, f) Q := by
  exact w_ifne cd_127_95 (by decide) h7 h8
theorem b_127_98 {d : Nat} {Q : (Option Value ⊕ Nat) → mi_H → Prop} (n sl : Nat) (f : Nat → mi_C) {l1 : Nat} {l2 : Int32} {l3 : Int32} {l4 : Nat} {l5 : Int64} (h6 : mi_W d 127 103 [some (.ref l1), some (.int l2), some (.int l3), some (.ref l4), some (.long l5), none] [.int 1] (n, sl, f) Q) : mi_W d 127 98 [some (.ref l1), some (.int l2), some (.int l3), some (.ref l4), some (.long l5), none] [] (n, sl, f) Q := by
  refine w_iconst (v := 1) cd_127_98 (by decide) ?_
  exact w_goto cd_127_99 (by decide) h6
theorem b_127_102 {d : Nat} {Q : (Option Value ⊕ Nat) → mi_H → Prop} (n sl : Nat) (f : Nat → mi_C) {l1 : Nat} {l2 : Int32} {l3 : Int32} {l4 : Nat} {l5 : Int64} (h6 : mi_W d 127 103 [some (.ref l1), some (.int l2), some (.int l3), some (.ref l4), some (.long l5), none] [.int 0] (n, sl, f) Q) : mi_W d 127 102 [some (.ref l1), some (.int l2), some (.int l3), some (.ref l4), some (.long l5), none] [] (n, sl, f) Q := by
  refine w_iconst (v := 0) cd_127_102 (by decide) ?_
  exact h6
theorem b_127_103 {d : Nat} {Q : (Option Value ⊕ Nat) → mi_H → Prop} (n sl : Nat) (f : Nat → mi_C) {l1 : Nat} {l2 : Int32} {l3 : Int32} {l4 : Nat} {l5 : Int64} {s6 : Int32} (h7 : s6 = 0 ∨ s6 = 1) (h8 : Q (.inl (some (.int s6))) (n, sl, f)) : mi_W d 127 103 [some (.ref l1), some (.int l2), some (.int l3), some (.ref l4), some (.long l5), none] [.int s6] (n, sl, f) Q := by
  exact w_ireturn_z cd_127_103 (by decide +kernel) h7 h8
/-! MarloweHost$Analyser.setInput(IJ)V -/
set_option maxRecDepth 100000 in
theorem mq_128 : mt_q 128 = my_128 := rfl
set_option maxRecDepth 100000 in
theorem ci_128 : mt_inc 0 my_128.cd = true := by decide +kernel
theorem cd_128_0 : mt_cd 128 0 = some (.aload_n 0) := mt_cd_of (q := (0, .aload_n 0, 1)) mq_128 ci_128 (List.mem_of_getElem? (i := 0) rfl)
theorem cd_128_1 : mt_cd 128 1 = some (.getfield 12) := mt_cd_of (q := (1, .getfield 12, 3)) mq_128 ci_128 (List.mem_of_getElem? (i := 1) rfl)
theorem cd_128_4 : mt_cd 128 4 = some (.iconst 0) := mt_cd_of (q := (4, .iconst 0, 1)) mq_128 ci_128 (List.mem_of_getElem? (i := 2) rfl)
theorem cd_128_5 : mt_cd 128 5 = some (.putfield 163) := mt_cd_of (q := (5, .putfield 163, 3)) mq_128 ci_128 (List.mem_of_getElem? (i := 3) rfl)
theorem cd_128_8 : mt_cd 128 8 = some (.aload_n 0) := mt_cd_of (q := (8, .aload_n 0, 1)) mq_128 ci_128 (List.mem_of_getElem? (i := 4) rfl)
theorem cd_128_9 : mt_cd 128 9 = some (.getfield 41) := mt_cd_of (q := (9, .getfield 41, 3)) mq_128 ci_128 (List.mem_of_getElem? (i := 5) rfl)
theorem cd_128_12 : mt_cd 128 12 = some (.iload_n 1) := mt_cd_of (q := (12, .iload_n 1, 1)) mq_128 ci_128 (List.mem_of_getElem? (i := 6) rfl)
theorem cd_128_13 : mt_cd 128 13 = some (.invokevirtual 114) := mt_cd_of (q := (13, .invokevirtual 114, 3)) mq_128 ci_128 (List.mem_of_getElem? (i := 7) rfl)
theorem cd_128_16 : mt_cd 128 16 = some (.ifCond .eq 48) := mt_cd_of (q := (16, .ifCond .eq 48, 3)) mq_128 ci_128 (List.mem_of_getElem? (i := 8) rfl)
theorem cd_128_19 : mt_cd 128 19 = some (.aload_n 0) := mt_cd_of (q := (19, .aload_n 0, 1)) mq_128 ci_128 (List.mem_of_getElem? (i := 9) rfl)
theorem cd_128_20 : mt_cd 128 20 = some (.getfield 12) := mt_cd_of (q := (20, .getfield 12, 3)) mq_128 ci_128 (List.mem_of_getElem? (i := 10) rfl)
theorem cd_128_23 : mt_cd 128 23 = some (.aload_n 0) := mt_cd_of (q := (23, .aload_n 0, 1)) mq_128 ci_128 (List.mem_of_getElem? (i := 11) rfl)
theorem cd_128_24 : mt_cd 128 24 = some (.getfield 41) := mt_cd_of (q := (24, .getfield 41, 3)) mq_128 ci_128 (List.mem_of_getElem? (i := 12) rfl)
theorem cd_128_27 : mt_cd 128 27 = some (.getfield 132) := mt_cd_of (q := (27, .getfield 132, 3)) mq_128 ci_128 (List.mem_of_getElem? (i := 13) rfl)
theorem cd_128_30 : mt_cd 128 30 = some (.iload_n 1) := mt_cd_of (q := (30, .iload_n 1, 1)) mq_128 ci_128 (List.mem_of_getElem? (i := 14) rfl)
theorem cd_128_31 : mt_cd 128 31 = some (.iaload) := mt_cd_of (q := (31, .iaload, 1)) mq_128 ci_128 (List.mem_of_getElem? (i := 15) rfl)
theorem cd_128_32 : mt_cd 128 32 = some (.aload_n 0) := mt_cd_of (q := (32, .aload_n 0, 1)) mq_128 ci_128 (List.mem_of_getElem? (i := 16) rfl)
theorem cd_128_33 : mt_cd 128 33 = some (.getfield 41) := mt_cd_of (q := (33, .getfield 41, 3)) mq_128 ci_128 (List.mem_of_getElem? (i := 17) rfl)
theorem cd_128_36 : mt_cd 128 36 = some (.getfield 166) := mt_cd_of (q := (36, .getfield 166, 3)) mq_128 ci_128 (List.mem_of_getElem? (i := 18) rfl)
theorem cd_128_39 : mt_cd 128 39 = some (.iload_n 1) := mt_cd_of (q := (39, .iload_n 1, 1)) mq_128 ci_128 (List.mem_of_getElem? (i := 19) rfl)
theorem cd_128_40 : mt_cd 128 40 = some (.iaload) := mt_cd_of (q := (40, .iaload, 1)) mq_128 ci_128 (List.mem_of_getElem? (i := 20) rfl)
theorem cd_128_41 : mt_cd 128 41 = some (.aload_n 0) := mt_cd_of (q := (41, .aload_n 0, 1)) mq_128 ci_128 (List.mem_of_getElem? (i := 21) rfl)
theorem cd_128_42 : mt_cd 128 42 = some (.getfield 41) := mt_cd_of (q := (42, .getfield 41, 3)) mq_128 ci_128 (List.mem_of_getElem? (i := 22) rfl)
theorem cd_128_45 : mt_cd 128 45 = some (.getfield 169) := mt_cd_of (q := (45, .getfield 169, 3)) mq_128 ci_128 (List.mem_of_getElem? (i := 23) rfl)
theorem cd_128_48 : mt_cd 128 48 = some (.iload_n 1) := mt_cd_of (q := (48, .iload_n 1, 1)) mq_128 ci_128 (List.mem_of_getElem? (i := 24) rfl)
theorem cd_128_49 : mt_cd 128 49 = some (.iaload) := mt_cd_of (q := (49, .iaload, 1)) mq_128 ci_128 (List.mem_of_getElem? (i := 25) rfl)
theorem cd_128_50 : mt_cd 128 50 = some (.aload_n 0) := mt_cd_of (q := (50, .aload_n 0, 1)) mq_128 ci_128 (List.mem_of_getElem? (i := 26) rfl)
theorem cd_128_51 : mt_cd 128 51 = some (.getfield 41) := mt_cd_of (q := (51, .getfield 41, 3)) mq_128 ci_128 (List.mem_of_getElem? (i := 27) rfl)
theorem cd_128_54 : mt_cd 128 54 = some (.getfield 172) := mt_cd_of (q := (54, .getfield 172, 3)) mq_128 ci_128 (List.mem_of_getElem? (i := 28) rfl)
theorem cd_128_57 : mt_cd 128 57 = some (.iload_n 1) := mt_cd_of (q := (57, .iload_n 1, 1)) mq_128 ci_128 (List.mem_of_getElem? (i := 29) rfl)
theorem cd_128_58 : mt_cd 128 58 = some (.iaload) := mt_cd_of (q := (58, .iaload, 1)) mq_128 ci_128 (List.mem_of_getElem? (i := 30) rfl)
theorem cd_128_59 : mt_cd 128 59 = some (.lload_n 2) := mt_cd_of (q := (59, .lload_n 2, 1)) mq_128 ci_128 (List.mem_of_getElem? (i := 31) rfl)
theorem cd_128_60 : mt_cd 128 60 = some (.invokevirtual 175) := mt_cd_of (q := (60, .invokevirtual 175, 3)) mq_128 ci_128 (List.mem_of_getElem? (i := 32) rfl)
theorem cd_128_63 : mt_cd 128 63 = some (.pop) := mt_cd_of (q := (63, .pop, 1)) mq_128 ci_128 (List.mem_of_getElem? (i := 33) rfl)
theorem cd_128_64 : mt_cd 128 64 = some (.return_) := mt_cd_of (q := (64, .return_, 1)) mq_128 ci_128 (List.mem_of_getElem? (i := 34) rfl)
theorem b_128_0 {d : Nat} {Q : (Option Value ⊕ Nat) → mi_H → Prop} (n sl : Nat) (f : Nat → mi_C) {l1 : Nat} {l2 : Int32} {l3 : Int64} {fs4 : List Value} {x7 : Nat} {fs9 : List Value} {fs13 : List Value} {x16 : Nat} {fs18 : List Value} (h5 : f l1 = .inr (11, fs4)) (h6 : l1 < n) (h8 : fs4[3]? = some (.ref x7)) (h10 : f x7 = .inr (6, fs9)) (h11 : x7 < n) (h12 : 5 < fs9.length) (h14 : (va_up f x7 (.inr (6, fs9.set 5 (.int 0)))) l1 = .inr (11, fs13)) (h15 : l1 < n) (h17 : fs13[0]? = some (.ref x16)) (h19 : (va_up f x7 (.inr (6, fs9.set 5 (.int 0)))) x16 = .inr (2, fs18)) (h20 : x16 < n) (h21 : mi_W d 80 0 (mi_en 2 [.ref x16, .int l2]) [] (n, sl, (va_up f x7 (.inr (6, fs9.set 5 (.int 0))))) (mi_Kc d 128 13 [some (.ref l1), some (.int l2), some (.long l3), none] [] Q)) : mi_W (d + 1) 128 0 [some (.ref l1), some (.int l2), some (.long l3), none] [] (n, sl, f) Q := by
  refine w_aload_n cd_128_0 rfl ?_
  refine w_getfield cd_128_1 (show mt_f 11 12 = some (11, 3) by decide +kernel) h5 h6 h8 ?_
  refine w_iconst (v := 0) cd_128_4 (by decide) ?_
  refine w_putfield (w := .int 0) cd_128_5 (show mt_f 11 163 = some (6, 5) by decide +kernel) h10 h11 ⟨h12, rfl, Or.inl (by decide)⟩ ?_
  refine w_aload_n cd_128_8 rfl ?_
  refine w_getfield cd_128_9 (show mt_f 11 41 = some (11, 0) by decide +kernel) h14 h15 h17 ?_
  refine w_iload_n cd_128_12 rfl ?_
  exact w_invokevirtual cd_128_13 (show mt_m 11 114 = some (80, 0) by decide +kernel) (rest := []) rfl (as := [.ref x16, .int l2]) rfl h19 (Or.inl h20) ⟨Nat.le_of_ble_eq_true rfl, Nat.le_of_ble_eq_true rfl, Nat.le_of_ble_eq_true rfl⟩ h21
theorem b_128_16 {d : Nat} {Q : (Option Value ⊕ Nat) → mi_H → Prop} (n sl : Nat) (f : Nat → mi_C) {l1 : Nat} {l2 : Int32} {l3 : Int64} {s4 : Int32} (h5 : s4 = (0 : Int32) → mi_W d 128 64 [some (.ref l1), some (.int l2), some (.long l3), none] [] (n, sl, f) Q) (h6 : ¬ (s4 = (0 : Int32)) → mi_W d 128 19 [some (.ref l1), some (.int l2), some (.long l3), none] [] (n, sl, f) Q) : mi_W d 128 16 [some (.ref l1), some (.int l2), some (.long l3), none] [.int s4] (n, sl, f) Q := by
  exact w_ifeq cd_128_16 (by decide) h5 h6
theorem b_128_19 {d : Nat} {Q : (Option Value ⊕ Nat) → mi_H → Prop} (n sl : Nat) (f : Nat → mi_C) {l1 : Nat} {l2 : Int32} {l3 : Int64} {fs4 : List Value} {x7 : Nat} {fs9 : List Value} {x12 : Nat} {fs14 : List Value} {x17 : Nat} (m19 i19 : Nat) (g19 : Nat → Int32) {fs23 : List Value} {x26 : Nat} {fs28 : List Value} {x31 : Nat} (m33 i33 : Nat) (g33 : Nat → Int32) {fs37 : List Value} {x40 : Nat} {fs42 : List Value} {x45 : Nat} (m47 i47 : Nat) (g47 : Nat → Int32) {fs51 : List Value} {x54 : Nat} {fs56 : List Value} {x59 : Nat} (m61 i61 : Nat) (g61 : Nat → Int32) {fs65 : List Value} (h5 : f l1 = .inr (11, fs4)) (h6 : l1 < n) (h8 : fs4[3]? = some (.ref x7)) (h10 : f l1 = .inr (11, fs9)) (h11 : l1 < n) (h13 : fs9[0]? = some (.ref x12)) (h15 : f x12 = .inr (2, fs14)) (h16 : x12 < n) (h18 : fs14[0]? = some (.ref x17)) (h20 : f x17 = .inl (0, m19, .inl g19)) (h21 : x17 < n ∨ x17 = mi_SC) (h22 : mi_ix l2 m19 i19) (h24 : f l1 = .inr (11, fs23)) (h25 : l1 < n) (h27 : fs23[0]? = some (.ref x26)) (h29 : f x26 = .inr (2, fs28)) (h30 : x26 < n) (h32 : fs28[4]? = some (.ref x31)) (h34 : f x31 = .inl (0, m33, .inl g33)) (h35 : x31 < n ∨ x31 = mi_SC) (h36 : mi_ix l2 m33 i33) (h38 : f l1 = .inr (11, fs37)) (h39 : l1 < n) (h41 : fs37[0]? = some (.ref x40)) (h43 : f x40 = .inr (2, fs42)) (h44 : x40 < n) (h46 : fs42[5]? = some (.ref x45)) (h48 : f x45 = .inl (0, m47, .inl g47)) (h49 : x45 < n ∨ x45 = mi_SC) (h50 : mi_ix l2 m47 i47) (h52 : f l1 = .inr (11, fs51)) (h53 : l1 < n) (h55 : fs51[0]? = some (.ref x54)) (h57 : f x54 = .inr (2, fs56)) (h58 : x54 < n) (h60 : fs56[6]? = some (.ref x59)) (h62 : f x59 = .inl (0, m61, .inl g61)) (h63 : x59 < n ∨ x59 = mi_SC) (h64 : mi_ix l2 m61 i61) (h66 : f x7 = .inr (6, fs65)) (h67 : x7 < n) (h68 : mi_W d 63 0 (mi_en 7 [.ref x7, .int (g19 i19), .int (g33 i33), .int (g47 i47), .int (g61 i61), .long l3]) [] (n, sl, f) (mi_Kc d 128 60 [some (.ref l1), some (.int l2), some (.long l3), none] [] Q)) : mi_W (d + 1) 128 19 [some (.ref l1), some (.int l2), some (.long l3), none] [] (n, sl, f) Q := by
  refine w_aload_n cd_128_19 rfl ?_
  refine w_getfield cd_128_20 (show mt_f 11 12 = some (11, 3) by decide +kernel) h5 h6 h8 ?_
  refine w_aload_n cd_128_23 rfl ?_
  refine w_getfield cd_128_24 (show mt_f 11 41 = some (11, 0) by decide +kernel) h10 h11 h13 ?_
  refine w_getfield cd_128_27 (show mt_f 11 132 = some (2, 0) by decide +kernel) h15 h16 h18 ?_
  refine w_iload_n cd_128_30 rfl ?_
  refine w_iaload cd_128_31 h20 h21 h22 ?_
  refine w_aload_n cd_128_32 rfl ?_
  refine w_getfield cd_128_33 (show mt_f 11 41 = some (11, 0) by decide +kernel) h24 h25 h27 ?_
  refine w_getfield cd_128_36 (show mt_f 11 166 = some (2, 4) by decide +kernel) h29 h30 h32 ?_
  refine w_iload_n cd_128_39 rfl ?_
  refine w_iaload cd_128_40 h34 h35 h36 ?_
  refine w_aload_n cd_128_41 rfl ?_
  refine w_getfield cd_128_42 (show mt_f 11 41 = some (11, 0) by decide +kernel) h38 h39 h41 ?_
  refine w_getfield cd_128_45 (show mt_f 11 169 = some (2, 5) by decide +kernel) h43 h44 h46 ?_
  refine w_iload_n cd_128_48 rfl ?_
  refine w_iaload cd_128_49 h48 h49 h50 ?_
  refine w_aload_n cd_128_50 rfl ?_
  refine w_getfield cd_128_51 (show mt_f 11 41 = some (11, 0) by decide +kernel) h52 h53 h55 ?_
  refine w_getfield cd_128_54 (show mt_f 11 172 = some (2, 6) by decide +kernel) h57 h58 h60 ?_
  refine w_iload_n cd_128_57 rfl ?_
  refine w_iaload cd_128_58 h62 h63 h64 ?_
  refine w_lload_n cd_128_59 rfl ?_
  exact w_invokevirtual cd_128_60 (show mt_m 11 175 = some (63, 0) by decide +kernel) (rest := []) rfl (as := [.ref x7, .int (g19 i19), .int (g33 i33), .int (g47 i47), .int (g61 i61), .long l3]) rfl h66 (Or.inl h67) ⟨Nat.le_of_ble_eq_true rfl, Nat.le_of_ble_eq_true rfl, Nat.le_of_ble_eq_true rfl⟩ h68
theorem b_128_63 {d : Nat} {Q : (Option Value ⊕ Nat) → mi_H → Prop} (n sl : Nat) (f : Nat → mi_C) {l1 : Nat} {l2 : Int32} {l3 : Int64} {s4 : Int32} (h5 : mi_W d 128 64 [some (.ref l1), some (.int l2), some (.long l3), none] [] (n, sl, f) Q) : mi_W d 128 63 [some (.ref l1), some (.int l2), some (.long l3), none] [.int s4] (n, sl, f) Q := by
  refine w_pop_i cd_128_63 ?_
  exact h5
theorem b_128_64 {d : Nat} {Q : (Option Value ⊕ Nat) → mi_H → Prop} (n sl : Nat) (f : Nat → mi_C) {l1 : Nat} {l2 : Int32} {l3 : Int64} (h4 : Q (.inl none) (n, sl, f)) : mi_W d 128 64 [some (.ref l1), some (.int l2), some (.long l3), none] [] (n, sl, f) Q := by
  exact w_return cd_128_64 (by decide +kernel) h4
/-! MarloweHostLaw.step(LMarloweHost;II[J)I -/
set_option maxRecDepth 100000 in
theorem mq_129 : mt_q 129 = my_129 := rfl
set_option maxRecDepth 100000 in
theorem ci_129 : mt_inc 0 my_129.cd = true := by decide +kernel
theorem cd_129_0 : mt_cd 129 0 = some (.aload_n 3) := mt_cd_of (q := (0, .aload_n 3, 1)) mq_129 ci_129 (List.mem_of_getElem? (i := 0) rfl)
theorem cd_129_1 : mt_cd 129 1 = some (.iconst 0) := mt_cd_of (q := (1, .iconst 0, 1)) mq_129 ci_129 (List.mem_of_getElem? (i := 1) rfl)
theorem cd_129_2 : mt_cd 129 2 = some (.aload_n 0) := mt_cd_of (q := (2, .aload_n 0, 1)) mq_129 ci_129 (List.mem_of_getElem? (i := 2) rfl)
theorem cd_129_3 : mt_cd 129 3 = some (.iload_n 1) := mt_cd_of (q := (3, .iload_n 1, 1)) mq_129 ci_129 (List.mem_of_getElem? (i := 3) rfl)
theorem cd_129_4 : mt_cd 129 4 = some (.iload_n 2) := mt_cd_of (q := (4, .iload_n 2, 1)) mq_129 ci_129 (List.mem_of_getElem? (i := 4) rfl)
theorem cd_129_5 : mt_cd 129 5 = some (.invokevirtual 58) := mt_cd_of (q := (5, .invokevirtual 58, 3)) mq_129 ci_129 (List.mem_of_getElem? (i := 5) rfl)
theorem cd_129_8 : mt_cd 129 8 = some (.lastore) := mt_cd_of (q := (8, .lastore, 1)) mq_129 ci_129 (List.mem_of_getElem? (i := 6) rfl)
theorem cd_129_9 : mt_cd 129 9 = some (.goto 11) := mt_cd_of (q := (9, .goto 11, 3)) mq_129 ci_129 (List.mem_of_getElem? (i := 7) rfl)
theorem cd_129_12 : mt_cd 129 12 = some (.astore 4) := mt_cd_of (q := (12, .astore 4, 2)) mq_129 ci_129 (List.mem_of_getElem? (i := 8) rfl)
theorem cd_129_14 : mt_cd 129 14 = some (.iconst 1) := mt_cd_of (q := (14, .iconst 1, 1)) mq_129 ci_129 (List.mem_of_getElem? (i := 9) rfl)
theorem cd_129_15 : mt_cd 129 15 = some (.ireturn) := mt_cd_of (q := (15, .ireturn, 1)) mq_129 ci_129 (List.mem_of_getElem? (i := 10) rfl)
theorem cd_129_16 : mt_cd 129 16 = some (.astore 4) := mt_cd_of (q := (16, .astore 4, 2)) mq_129 ci_129 (List.mem_of_getElem? (i := 11) rfl)
theorem cd_129_18 : mt_cd 129 18 = some (.iconst 2) := mt_cd_of (q := (18, .iconst 2, 1)) mq_129 ci_129 (List.mem_of_getElem? (i := 12) rfl)
theorem cd_129_19 : mt_cd 129 19 = some (.ireturn) := mt_cd_of (q := (19, .ireturn, 1)) mq_129 ci_129 (List.mem_of_getElem? (i := 13) rfl)
theorem cd_129_20 : mt_cd 129 20 = some (.iconst 0) := mt_cd_of (q := (20, .iconst 0, 1)) mq_129 ci_129 (List.mem_of_getElem? (i := 14) rfl)
theorem cd_129_21 : mt_cd 129 21 = some (.ireturn) := mt_cd_of (q := (21, .ireturn, 1)) mq_129 ci_129 (List.mem_of_getElem? (i := 15) rfl)
theorem b_129_0 {d : Nat} {Q : (Option Value ⊕ Nat) → mi_H → Prop} (n sl : Nat) (f : Nat → mi_C) {l1 : Nat} {l2 : Int32} {l3 : Int32} {l4 : Nat} {o5 : Option Value} {fs6 : List Value} (h7 : f l1 = .inr (0, fs6)) (h8 : l1 < n) (h9 : mi_W d 130 0 (mi_en 3 [.ref l1, .int l2, .int l3]) [] (n, sl, f) (mi_Kc d 129 5 [some (.ref l1), some (.int l2), some (.int l3), some (.ref l4), o5] [.int 0, .ref l4] Q)) : mi_W (d + 1) 129 0 [some (.ref l1), some (.int l2), some (.int l3), some (.ref l4), o5] [] (n, sl, f) Q := by
  refine w_aload_n cd_129_0 rfl ?_
  refine w_iconst (v := 0) cd_129_1 (by decide) ?_
  refine w_aload_n cd_129_2 rfl ?_
  refine w_iload_n cd_129_3 rfl ?_
  refine w_iload_n cd_129_4 rfl ?_
  exact w_invokevirtual cd_129_5 (show mt_m 18 58 = some (130, 0) by decide +kernel) (rest := [.int 0, .ref l4]) rfl (as := [.ref l1, .int l2, .int l3]) rfl h7 (Or.inl h8) ⟨Nat.le_of_ble_eq_true rfl, Nat.le_of_ble_eq_true rfl, Nat.le_of_ble_eq_true rfl⟩ h9
theorem b_129_8 {d : Nat} {Q : (Option Value ⊕ Nat) → mi_H → Prop} (n sl : Nat) (f : Nat → mi_C) {l1 : Nat} {l2 : Int32} {l3 : Int32} {l4 : Nat} {o5 : Option Value} {s6 : Int64} {s7 : Int32} {s8 : Nat} (m9 i9 : Nat) (g9 : Nat → Int64) (h10 : f s8 = .inl (3, m9, .inr (.inl g9))) (h11 : s8 < n) (h12 : mi_ix s7 m9 i9) (h13 : mi_W d 129 20 [some (.ref l1), some (.int l2), some (.int l3), some (.ref l4), o5] [] (n, sl, (va_up f s8 (.inl (3, m9, .inr (.inl (vp_updL g9 i9 s6)))))) Q) : mi_W d 129 8 [some (.ref l1), some (.int l2), some (.int l3), some (.ref l4), o5] [.long s6, .int s7, .ref s8] (n, sl, f) Q := by
  refine w_lastore cd_129_8 h10 h11 h12 ?_
  exact w_goto cd_129_9 (by decide) h13
theorem b_129_12 {d : Nat} {Q : (Option Value ⊕ Nat) → mi_H → Prop} (n sl : Nat) (f : Nat → mi_C) {l1 : Nat} {l2 : Int32} {l3 : Int32} {l4 : Nat} {o5 : Option Value} {s6 : Nat} (h7 : Q (.inl (some (.int 1))) (n, sl, f)) : mi_W d 129 12 [some (.ref l1), some (.int l2), some (.int l3), some (.ref l4), o5] [.ref s6] (n, sl, f) Q := by
  refine w_astore (ls' := [some (.ref l1), some (.int l2), some (.int l3), some (.ref l4), some (.ref s6)]) cd_129_12 (Nat.le_of_ble_eq_true rfl) rfl ?_
  refine w_iconst (v := 1) cd_129_14 (by decide) ?_
  exact w_ireturn_i cd_129_15 (by decide +kernel) h7
theorem b_129_16 {d : Nat} {Q : (Option Value ⊕ Nat) → mi_H → Prop} (n sl : Nat) (f : Nat → mi_C) {l1 : Nat} {l2 : Int32} {l3 : Int32} {l4 : Nat} {o5 : Option Value} {s6 : Nat} (h7 : Q (.inl (some (.int 2))) (n, sl, f)) : mi_W d 129 16 [some (.ref l1), some (.int l2), some (.int l3), some (.ref l4), o5] [.ref s6] (n, sl, f) Q := by
  refine w_astore (ls' := [some (.ref l1), some (.int l2), some (.int l3), some (.ref l4), some (.ref s6)]) cd_129_16 (Nat.le_of_ble_eq_true rfl) rfl ?_
  refine w_iconst (v := 2) cd_129_18 (by decide) ?_
  exact w_ireturn_i cd_129_19 (by decide +kernel) h7
theorem b_129_20 {d : Nat} {Q : (Option Value ⊕ Nat) → mi_H → Prop} (n sl : Nat) (f : Nat → mi_C) {l1 : Nat} {l2 : Int32} {l3 : Int32} {l4 : Nat} {o5 : Option Value} (h6 : Q (.inl (some (.int 0))) (n, sl, f)) : mi_W d 129 20 [some (.ref l1), some (.int l2), some (.int l3), some (.ref l4), o5] [] (n, sl, f) Q := by
  refine w_iconst (v := 0) cd_129_20 (by decide) ?_
  exact w_ireturn_i cd_129_21 (by decide +kernel) h6
/-! MarloweHost.step(II)J -/
set_option maxRecDepth 100000 in
theorem mq_130 : mt_q 130 = my_130 := rfl
set_option maxRecDepth 100000 in
theorem ci_130 : mt_inc 0 my_130.cd = true := by decide +kernel
theorem cd_130_0 : mt_cd 130 0 = some (.iload_n 2) := mt_cd_of (q := (0, .iload_n 2, 1)) mq_130 ci_130 (List.mem_of_getElem? (i := 0) rfl)
theorem cd_130_1 : mt_cd 130 1 = some (.ifCond .lt 8) := mt_cd_of (q := (1, .ifCond .lt 8, 3)) mq_130 ci_130 (List.mem_of_getElem? (i := 1) rfl)
theorem cd_130_4 : mt_cd 130 4 = some (.iload_n 2) := mt_cd_of (q := (4, .iload_n 2, 1)) mq_130 ci_130 (List.mem_of_getElem? (i := 2) rfl)
theorem cd_130_5 : mt_cd 130 5 = some (.iconst 2) := mt_cd_of (q := (5, .iconst 2, 1)) mq_130 ci_130 (List.mem_of_getElem? (i := 3) rfl)
theorem cd_130_6 : mt_cd 130 6 = some (.if_icmp .le 13) := mt_cd_of (q := (6, .if_icmp .le 13, 3)) mq_130 ci_130 (List.mem_of_getElem? (i := 4) rfl)
theorem cd_130_9 : mt_cd 130 9 = some (.new 123) := mt_cd_of (q := (9, .new 123, 3)) mq_130 ci_130 (List.mem_of_getElem? (i := 5) rfl)
theorem cd_130_12 : mt_cd 130 12 = some (.dup) := mt_cd_of (q := (12, .dup, 1)) mq_130 ci_130 (List.mem_of_getElem? (i := 6) rfl)
theorem cd_130_13 : mt_cd 130 13 = some (.ldc 210) := mt_cd_of (q := (13, .ldc 210, 2)) mq_130 ci_130 (List.mem_of_getElem? (i := 7) rfl)
theorem cd_130_15 : mt_cd 130 15 = some (.invokespecial 127) := mt_cd_of (q := (15, .invokespecial 127, 3)) mq_130 ci_130 (List.mem_of_getElem? (i := 8) rfl)
theorem cd_130_18 : mt_cd 130 18 = some (.athrow) := mt_cd_of (q := (18, .athrow, 1)) mq_130 ci_130 (List.mem_of_getElem? (i := 9) rfl)
theorem cd_130_19 : mt_cd 130 19 = some (.iload_n 1) := mt_cd_of (q := (19, .iload_n 1, 1)) mq_130 ci_130 (List.mem_of_getElem? (i := 10) rfl)
theorem cd_130_20 : mt_cd 130 20 = some (.ifCond .lt 14) := mt_cd_of (q := (20, .ifCond .lt 14, 3)) mq_130 ci_130 (List.mem_of_getElem? (i := 11) rfl)
theorem cd_130_23 : mt_cd 130 23 = some (.iload_n 1) := mt_cd_of (q := (23, .iload_n 1, 1)) mq_130 ci_130 (List.mem_of_getElem? (i := 12) rfl)
theorem cd_130_24 : mt_cd 130 24 = some (.aload_n 0) := mt_cd_of (q := (24, .aload_n 0, 1)) mq_130 ci_130 (List.mem_of_getElem? (i := 13) rfl)
theorem cd_130_25 : mt_cd 130 25 = some (.getfield 60) := mt_cd_of (q := (25, .getfield 60, 3)) mq_130 ci_130 (List.mem_of_getElem? (i := 14) rfl)
theorem cd_130_28 : mt_cd 130 28 = some (.getfield 212) := mt_cd_of (q := (28, .getfield 212, 3)) mq_130 ci_130 (List.mem_of_getElem? (i := 15) rfl)
theorem cd_130_31 : mt_cd 130 31 = some (.if_icmp .lt 13) := mt_cd_of (q := (31, .if_icmp .lt 13, 3)) mq_130 ci_130 (List.mem_of_getElem? (i := 16) rfl)
theorem cd_130_34 : mt_cd 130 34 = some (.new 78) := mt_cd_of (q := (34, .new 78, 3)) mq_130 ci_130 (List.mem_of_getElem? (i := 17) rfl)
theorem cd_130_37 : mt_cd 130 37 = some (.dup) := mt_cd_of (q := (37, .dup, 1)) mq_130 ci_130 (List.mem_of_getElem? (i := 18) rfl)
theorem cd_130_38 : mt_cd 130 38 = some (.ldc 215) := mt_cd_of (q := (38, .ldc 215, 2)) mq_130 ci_130 (List.mem_of_getElem? (i := 19) rfl)
theorem cd_130_40 : mt_cd 130 40 = some (.invokespecial 82) := mt_cd_of (q := (40, .invokespecial 82, 3)) mq_130 ci_130 (List.mem_of_getElem? (i := 20) rfl)
theorem cd_130_43 : mt_cd 130 43 = some (.athrow) := mt_cd_of (q := (43, .athrow, 1)) mq_130 ci_130 (List.mem_of_getElem? (i := 21) rfl)
theorem cd_130_44 : mt_cd 130 44 = some (.iload_n 2) := mt_cd_of (q := (44, .iload_n 2, 1)) mq_130 ci_130 (List.mem_of_getElem? (i := 22) rfl)
theorem cd_130_45 : mt_cd 130 45 = some (.lookupswitch 48 #[(0, 27), (1, 38)]) := mt_cd_of (q := (45, .lookupswitch 48 #[(0, 27), (1, 38)], 27)) mq_130 ci_130 (List.mem_of_getElem? (i := 23) rfl)
theorem cd_130_72 : mt_cd 130 72 = some (.aload_n 0) := mt_cd_of (q := (72, .aload_n 0, 1)) mq_130 ci_130 (List.mem_of_getElem? (i := 24) rfl)
theorem cd_130_73 : mt_cd 130 73 = some (.getfield 60) := mt_cd_of (q := (73, .getfield 60, 3)) mq_130 ci_130 (List.mem_of_getElem? (i := 25) rfl)
theorem cd_130_76 : mt_cd 130 76 = some (.getfield 217) := mt_cd_of (q := (76, .getfield 217, 3)) mq_130 ci_130 (List.mem_of_getElem? (i := 26) rfl)
theorem cd_130_79 : mt_cd 130 79 = some (.iload_n 1) := mt_cd_of (q := (79, .iload_n 1, 1)) mq_130 ci_130 (List.mem_of_getElem? (i := 27) rfl)
theorem cd_130_80 : mt_cd 130 80 = some (.iaload) := mt_cd_of (q := (80, .iaload, 1)) mq_130 ci_130 (List.mem_of_getElem? (i := 28) rfl)
theorem cd_130_81 : mt_cd 130 81 = some (.i2l) := mt_cd_of (q := (81, .i2l, 1)) mq_130 ci_130 (List.mem_of_getElem? (i := 29) rfl)
theorem cd_130_82 : mt_cd 130 82 = some (.lreturn) := mt_cd_of (q := (82, .lreturn, 1)) mq_130 ci_130 (List.mem_of_getElem? (i := 30) rfl)
theorem cd_130_83 : mt_cd 130 83 = some (.aload_n 0) := mt_cd_of (q := (83, .aload_n 0, 1)) mq_130 ci_130 (List.mem_of_getElem? (i := 31) rfl)
theorem cd_130_84 : mt_cd 130 84 = some (.getfield 60) := mt_cd_of (q := (84, .getfield 60, 3)) mq_130 ci_130 (List.mem_of_getElem? (i := 32) rfl)
theorem cd_130_87 : mt_cd 130 87 = some (.getfield 220) := mt_cd_of (q := (87, .getfield 220, 3)) mq_130 ci_130 (List.mem_of_getElem? (i := 33) rfl)
theorem cd_130_90 : mt_cd 130 90 = some (.iload_n 1) := mt_cd_of (q := (90, .iload_n 1, 1)) mq_130 ci_130 (List.mem_of_getElem? (i := 34) rfl)
theorem cd_130_91 : mt_cd 130 91 = some (.laload) := mt_cd_of (q := (91, .laload, 1)) mq_130 ci_130 (List.mem_of_getElem? (i := 35) rfl)
theorem cd_130_92 : mt_cd 130 92 = some (.lreturn) := mt_cd_of (q := (92, .lreturn, 1)) mq_130 ci_130 (List.mem_of_getElem? (i := 36) rfl)
theorem cd_130_93 : mt_cd 130 93 = some (.aload_n 0) := mt_cd_of (q := (93, .aload_n 0, 1)) mq_130 ci_130 (List.mem_of_getElem? (i := 37) rfl)
theorem cd_130_94 : mt_cd 130 94 = some (.getfield 60) := mt_cd_of (q := (94, .getfield 60, 3)) mq_130 ci_130 (List.mem_of_getElem? (i := 38) rfl)
theorem cd_130_97 : mt_cd 130 97 = some (.getfield 223) := mt_cd_of (q := (97, .getfield 223, 3)) mq_130 ci_130 (List.mem_of_getElem? (i := 39) rfl)
theorem cd_130_100 : mt_cd 130 100 = some (.iload_n 1) := mt_cd_of (q := (100, .iload_n 1, 1)) mq_130 ci_130 (List.mem_of_getElem? (i := 40) rfl)
theorem cd_130_101 : mt_cd 130 101 = some (.iaload) := mt_cd_of (q := (101, .iaload, 1)) mq_130 ci_130 (List.mem_of_getElem? (i := 41) rfl)
theorem cd_130_102 : mt_cd 130 102 = some (.i2l) := mt_cd_of (q := (102, .i2l, 1)) mq_130 ci_130 (List.mem_of_getElem? (i := 42) rfl)
theorem cd_130_103 : mt_cd 130 103 = some (.lreturn) := mt_cd_of (q := (103, .lreturn, 1)) mq_130 ci_130 (List.mem_of_getElem? (i := 43) rfl)
theorem b_130_0 {d : Nat} {Q : (Option Value ⊕ Nat) → mi_H → Prop} (n sl : Nat) (f : Nat → mi_C) {l1 : Nat} {l2 : Int32} {l3 : Int32} (h4 : l3 < (0 : Int32) → mi_W d 130 9 [some (.ref l1), some (.int l2), some (.int l3)] [] (n, sl, f) Q) (h5 : ¬ (l3 < (0 : Int32)) → mi_W d 130 4 [some (.ref l1), some (.int l2), some (.int l3)] [] (n, sl, f) Q) : mi_W d 130 0 [some (.ref l1), some (.int l2), some (.int l3)] [] (n, sl, f) Q := by
  refine w_iload_n cd_130_0 rfl ?_
  exact w_iflt cd_130_1 (by decide) h4 h5
theorem b_130_4 {d : Nat} {Q : (Option Value ⊕ Nat) → mi_H → Prop} (n sl : Nat) (f : Nat → mi_C) {l1 : Nat} {l2 : Int32} {l3 : Int32} (h4 : l3 ≤ 2 → mi_W d 130 19 [some (.ref l1), some (.int l2), some (.int l3)] [] (n, sl, f) Q) (h5 : ¬ (l3 ≤ 2) → mi_W d 130 9 [some (.ref l1), some (.int l2), some (.int l3)] [] (n, sl, f) Q) : mi_W d 130 4 [some (.ref l1), some (.int l2), some (.int l3)] [] (n, sl, f) Q := by
  refine w_iload_n cd_130_4 rfl ?_
  refine w_iconst (v := 2) cd_130_5 (by decide) ?_
  exact w_if_icmple cd_130_6 (by decide) h4 h5
theorem b_130_9 {d : Nat} {Q : (Option Value ⊕ Nat) → mi_H → Prop} (n sl : Nat) (f : Nat → mi_C) {l1 : Nat} {l2 : Int32} {l3 : Int32} {h' : mi_H} (h4 : mi_t 130 9 (.new 123) [] (n, sl, f) = some h') (h5 : Q (.inr n) h') : mi_W d 130 9 [some (.ref l1), some (.int l2), some (.int l3)] [] (n, sl, f) Q := by
  exact w_throw cd_130_9 (show mt_c 0 123 = some 15 by decide +kernel) (by decide) h4 h5
theorem b_130_19 {d : Nat} {Q : (Option Value ⊕ Nat) → mi_H → Prop} (n sl : Nat) (f : Nat → mi_C) {l1 : Nat} {l2 : Int32} {l3 : Int32} (h4 : l2 < (0 : Int32) → mi_W d 130 34 [some (.ref l1), some (.int l2), some (.int l3)] [] (n, sl, f) Q) (h5 : ¬ (l2 < (0 : Int32)) → mi_W d 130 23 [some (.ref l1), some (.int l2), some (.int l3)] [] (n, sl, f) Q) : mi_W d 130 19 [some (.ref l1), some (.int l2), some (.int l3)] [] (n, sl, f) Q := by
  refine w_iload_n cd_130_19 rfl ?_
  exact w_iflt cd_130_20 (by decide) h4 h5
theorem b_130_23 {d : Nat} {Q : (Option Value ⊕ Nat) → mi_H → Prop} (n sl : Nat) (f : Nat → mi_C) {l1 : Nat} {l2 : Int32} {l3 : Int32} {fs4 : List Value} {x7 : Nat} {fs9 : List Value} {x12 : Int32} (h5 : f l1 = .inr (0, fs4)) (h6 : l1 < n) (h8 : fs4[6]? = some (.ref x7)) (h10 : f x7 = .inr (11, fs9)) (h11 : x7 < n) (h13 : fs9[11]? = some (.int x12)) (h14 : l2 < x12 → mi_W d 130 44 [some (.ref l1), some (.int l2), some (.int l3)] [] (n, sl, f) Q) (h15 : ¬ (l2 < x12) → mi_W d 130 34 [some (.ref l1), some (.int l2), some (.int l3)] [] (n, sl, f) Q) : mi_W d 130 23 [some (.ref l1), some (.int l2), some (.int l3)] [] (n, sl, f) Q := by
  refine w_iload_n cd_130_23 rfl ?_
  refine w_aload_n cd_130_24 rfl ?_
  refine w_getfield cd_130_25 (show mt_f 0 60 = some (0, 6) by decide +kernel) h5 h6 h8 ?_
  refine w_getfield cd_130_28 (show mt_f 0 212 = some (11, 11) by decide +kernel) h10 h11 h13 ?_
  exact w_if_icmplt cd_130_31 (by decide) h14 h15
theorem b_130_34 {d : Nat} {Q : (Option Value ⊕ Nat) → mi_H → Prop} (n sl : Nat) (f : Nat → mi_C) {l1 : Nat} {l2 : Int32} {l3 : Int32} {h' : mi_H} (h4 : mi_t 130 34 (.new 78) [] (n, sl, f) = some h') (h5 : Q (.inr n) h') : mi_W d 130 34 [some (.ref l1), some (.int l2), some (.int l3)] [] (n, sl, f) Q := by
  exact w_throw cd_130_34 (show mt_c 0 78 = some 14 by decide +kernel) (by decide) h4 h5
theorem b_130_44 {d : Nat} {Q : (Option Value ⊕ Nat) → mi_H → Prop} (n sl : Nat) (f : Nat → mi_C) {l1 : Nat} {l2 : Int32} {l3 : Int32} {t4 : Nat} (h5 : mi_j 45 (Op.lookupswitch.offset (#[(0, 27), (1, 38)] : Array (Int × Int)).toList 48 (l3 : Int32).toInt) = some t4) (h6 : mi_W d 130 t4 [some (.ref l1), some (.int l2), some (.int l3)] [] (n, sl, f) Q) : mi_W d 130 44 [some (.ref l1), some (.int l2), some (.int l3)] [] (n, sl, f) Q := by
  refine w_iload_n cd_130_44 rfl ?_
  exact w_lookupswitch cd_130_45 (by decide) h5 h6
theorem b_130_72 {d : Nat} {Q : (Option Value ⊕ Nat) → mi_H → Prop} (n sl : Nat) (f : Nat → mi_C) {l1 : Nat} {l2 : Int32} {l3 : Int32} {fs4 : List Value} {x7 : Nat} {fs9 : List Value} {x12 : Nat} (m14 i14 : Nat) (g14 : Nat → Int32) (h5 : f l1 = .inr (0, fs4)) (h6 : l1 < n) (h8 : fs4[6]? = some (.ref x7)) (h10 : f x7 = .inr (11, fs9)) (h11 : x7 < n) (h13 : fs9[7]? = some (.ref x12)) (h15 : f x12 = .inl (0, m14, .inl g14)) (h16 : x12 < n ∨ x12 = mi_SC) (h17 : mi_ix l2 m14 i14) (h18 : Q (.inl (some (.long (((g14 i14) : Int32).toInt64)))) (n, sl, f)) : mi_W d 130 72 [some (.ref l1), some (.int l2), some (.int l3)] [] (n, sl, f) Q := by
  refine w_aload_n cd_130_72 rfl ?_
  refine w_getfield cd_130_73 (show mt_f 0 60 = some (0, 6) by decide +kernel) h5 h6 h8 ?_
  refine w_getfield cd_130_76 (show mt_f 0 217 = some (11, 7) by decide +kernel) h10 h11 h13 ?_
  refine w_iload_n cd_130_79 rfl ?_
  refine w_iaload cd_130_80 h15 h16 h17 ?_
  refine w_i2l cd_130_81 ?_
  exact w_lreturn cd_130_82 (by decide +kernel) h18
theorem b_130_83 {d : Nat} {Q : (Option Value ⊕ Nat) → mi_H → Prop} (n sl : Nat) (f : Nat → mi_C) {l1 : Nat} {l2 : Int32} {l3 : Int32} {fs4 : List Value} {x7 : Nat} {fs9 : List Value} {x12 : Nat} (m14 i14 : Nat) (g14 : Nat → Int64) (h5 : f l1 = .inr (0, fs4)) (h6 : l1 < n) (h8 : fs4[6]? = some (.ref x7)) (h10 : f x7 = .inr (11, fs9)) (h11 : x7 < n) (h13 : fs9[8]? = some (.ref x12)) (h15 : f x12 = .inl (3, m14, .inr (.inl g14))) (h16 : x12 < n) (h17 : mi_ix l2 m14 i14) (h18 : Q (.inl (some (.long (g14 i14)))) (n, sl, f)) : mi_W d 130 83 [some (.ref l1), some (.int l2), some (.int l3)] [] (n, sl, f) Q := by
  refine w_aload_n cd_130_83 rfl ?_
  refine w_getfield cd_130_84 (show mt_f 0 60 = some (0, 6) by decide +kernel) h5 h6 h8 ?_
  refine w_getfield cd_130_87 (show mt_f 0 220 = some (11, 8) by decide +kernel) h10 h11 h13 ?_
  refine w_iload_n cd_130_90 rfl ?_
  refine w_laload cd_130_91 h15 h16 h17 ?_
  exact w_lreturn cd_130_92 (by decide +kernel) h18
theorem b_130_93 {d : Nat} {Q : (Option Value ⊕ Nat) → mi_H → Prop} (n sl : Nat) (f : Nat → mi_C) {l1 : Nat} {l2 : Int32} {l3 : Int32} {fs4 : List Value} {x7 : Nat} {fs9 : List Value} {x12 : Nat} (m14 i14 : Nat) (g14 : Nat → Int32) (h5 : f l1 = .inr (0, fs4)) (h6 : l1 < n) (h8 : fs4[6]? = some (.ref x7)) (h10 : f x7 = .inr (11, fs9)) (h11 : x7 < n) (h13 : fs9[9]? = some (.ref x12)) (h15 : f x12 = .inl (0, m14, .inl g14)) (h16 : x12 < n ∨ x12 = mi_SC) (h17 : mi_ix l2 m14 i14) (h18 : Q (.inl (some (.long (((g14 i14) : Int32).toInt64)))) (n, sl, f)) : mi_W d 130 93 [some (.ref l1), some (.int l2), some (.int l3)] [] (n, sl, f) Q := by
  refine w_aload_n cd_130_93 rfl ?_
  refine w_getfield cd_130_94 (show mt_f 0 60 = some (0, 6) by decide +kernel) h5 h6 h8 ?_
  refine w_getfield cd_130_97 (show mt_f 0 223 = some (11, 9) by decide +kernel) h10 h11 h13 ?_
  refine w_iload_n cd_130_100 rfl ?_
  refine w_iaload cd_130_101 h15 h16 h17 ?_
  refine w_i2l cd_130_102 ?_
  exact w_lreturn cd_130_103 (by decide +kernel) h18
/-! MarloweHostLaw.count(LMarloweHost;I[J)I -/
set_option maxRecDepth 100000 in
theorem mq_131 : mt_q 131 = my_131 := rfl
set_option maxRecDepth 100000 in
theorem ci_131 : mt_inc 0 my_131.cd = true := by decide +kernel
theorem cd_131_0 : mt_cd 131 0 = some (.aload_n 2) := mt_cd_of (q := (0, .aload_n 2, 1)) mq_131 ci_131 (List.mem_of_getElem? (i := 0) rfl)
theorem cd_131_1 : mt_cd 131 1 = some (.iconst 0) := mt_cd_of (q := (1, .iconst 0, 1)) mq_131 ci_131 (List.mem_of_getElem? (i := 1) rfl)
theorem cd_131_2 : mt_cd 131 2 = some (.aload_n 0) := mt_cd_of (q := (2, .aload_n 0, 1)) mq_131 ci_131 (List.mem_of_getElem? (i := 2) rfl)
theorem cd_131_3 : mt_cd 131 3 = some (.iload_n 1) := mt_cd_of (q := (3, .iload_n 1, 1)) mq_131 ci_131 (List.mem_of_getElem? (i := 3) rfl)
theorem cd_131_4 : mt_cd 131 4 = some (.invokevirtual 62) := mt_cd_of (q := (4, .invokevirtual 62, 3)) mq_131 ci_131 (List.mem_of_getElem? (i := 4) rfl)
theorem cd_131_7 : mt_cd 131 7 = some (.i2l) := mt_cd_of (q := (7, .i2l, 1)) mq_131 ci_131 (List.mem_of_getElem? (i := 5) rfl)
theorem cd_131_8 : mt_cd 131 8 = some (.lastore) := mt_cd_of (q := (8, .lastore, 1)) mq_131 ci_131 (List.mem_of_getElem? (i := 6) rfl)
theorem cd_131_9 : mt_cd 131 9 = some (.goto 6) := mt_cd_of (q := (9, .goto 6, 3)) mq_131 ci_131 (List.mem_of_getElem? (i := 7) rfl)
theorem cd_131_12 : mt_cd 131 12 = some (.astore_n 3) := mt_cd_of (q := (12, .astore_n 3, 1)) mq_131 ci_131 (List.mem_of_getElem? (i := 8) rfl)
theorem cd_131_13 : mt_cd 131 13 = some (.iconst 1) := mt_cd_of (q := (13, .iconst 1, 1)) mq_131 ci_131 (List.mem_of_getElem? (i := 9) rfl)
theorem cd_131_14 : mt_cd 131 14 = some (.ireturn) := mt_cd_of (q := (14, .ireturn, 1)) mq_131 ci_131 (List.mem_of_getElem? (i := 10) rfl)
theorem cd_131_15 : mt_cd 131 15 = some (.iconst 0) := mt_cd_of (q := (15, .iconst 0, 1)) mq_131 ci_131 (List.mem_of_getElem? (i := 11) rfl)
theorem cd_131_16 : mt_cd 131 16 = some (.ireturn) := mt_cd_of (q := (16, .ireturn, 1)) mq_131 ci_131 (List.mem_of_getElem? (i := 12) rfl)
theorem b_131_0 {d : Nat} {Q : (Option Value ⊕ Nat) → mi_H → Prop} (n sl : Nat) (f : Nat → mi_C) {l1 : Nat} {l2 : Int32} {l3 : Nat} {o4 : Option Value} {fs5 : List Value} (h6 : f l1 = .inr (0, fs5)) (h7 : l1 < n) (h8 : mi_W d 132 0 (mi_en 2 [.ref l1, .int l2]) [] (n, sl, f) (mi_Kc d 131 4 [some (.ref l1), some (.int l2), some (.ref l3), o4] [.int 0, .ref l3] Q)) : mi_W (d + 1) 131 0 [some (.ref l1), some (.int l2), some (.ref l3), o4] [] (n, sl, f) Q := by
  refine w_aload_n cd_131_0 rfl ?_
  refine w_iconst (v := 0) cd_131_1 (by decide) ?_
  refine w_aload_n cd_131_2 rfl ?_
  refine w_iload_n cd_131_3 rfl ?_
  exact w_invokevirtual cd_131_4 (show mt_m 18 62 = some (132, 0) by decide +kernel) (rest := [.int 0, .ref l3]) rfl (as := [.ref l1, .int l2]) rfl h6 (Or.inl h7) ⟨Nat.le_of_ble_eq_true rfl, Nat.le_of_ble_eq_true rfl, Nat.le_of_ble_eq_true rfl⟩ h8
theorem b_131_7 {d : Nat} {Q : (Option Value ⊕ Nat) → mi_H → Prop} (n sl : Nat) (f : Nat → mi_C) {l1 : Nat} {l2 : Int32} {l3 : Nat} {o4 : Option Value} {s5 : Int32} {s6 : Int32} {s7 : Nat} (m8 i8 : Nat) (g8 : Nat → Int64) (h9 : f s7 = .inl (3, m8, .inr (.inl g8))) (h10 : s7 < n) (h11 : mi_ix s6 m8 i8) (h12 : mi_W d 131 15 [some (.ref l1), some (.int l2), some (.ref l3), o4] [] (n, sl, (va_up f s7 (.inl (3, m8, .inr (.inl (vp_updL g8 i8 ((s5 : Int32).toInt64))))))) Q) : mi_W d 131 7 [some (.ref l1), some (.int l2), some (.ref l3), o4] [.int s5, .int s6, .ref s7] (n, sl, f) Q := by
  refine w_i2l cd_131_7 ?_
  refine w_lastore cd_131_8 h9 h10 h11 ?_
  exact w_goto cd_131_9 (by decide) h12
theorem b_131_12 {d : Nat} {Q : (Option Value ⊕ Nat) → mi_H → Prop} (n sl : Nat) (f : Nat → mi_C) {l1 : Nat} {l2 : Int32} {l3 : Nat} {o4 : Option Value} {s5 : Nat} (h6 : Q (.inl (some (.int 1))) (n, sl, f)) : mi_W d 131 12 [some (.ref l1), some (.int l2), some (.ref l3), o4] [.ref s5] (n, sl, f) Q := by
  refine w_astore_n (ls' := [some (.ref l1), some (.int l2), some (.ref l3), some (.ref s5)]) cd_131_12 (Nat.le_of_ble_eq_true rfl) rfl ?_
  refine w_iconst (v := 1) cd_131_13 (by decide) ?_
  exact w_ireturn_i cd_131_14 (by decide +kernel) h6
theorem b_131_15 {d : Nat} {Q : (Option Value ⊕ Nat) → mi_H → Prop} (n sl : Nat) (f : Nat → mi_C) {l1 : Nat} {l2 : Int32} {l3 : Nat} {o4 : Option Value} (h5 : Q (.inl (some (.int 0))) (n, sl, f)) : mi_W d 131 15 [some (.ref l1), some (.int l2), some (.ref l3), o4] [] (n, sl, f) Q := by
  refine w_iconst (v := 0) cd_131_15 (by decide) ?_
  exact w_ireturn_i cd_131_16 (by decide +kernel) h5
/-! MarloweHost.count(I)I -/
set_option maxRecDepth 100000 in
theorem mq_132 : mt_q 132 = my_132 := rfl
set_option maxRecDepth 100000 in
theorem ci_132 : mt_inc 0 my_132.cd = true := by decide +kernel
theorem cd_132_0 : mt_cd 132 0 = some (.iload_n 1) := mt_cd_of (q := (0, .iload_n 1, 1)) mq_132 ci_132 (List.mem_of_getElem? (i := 0) rfl)
theorem cd_132_1 : mt_cd 132 1 = some (.ifCond .lt 9) := mt_cd_of (q := (1, .ifCond .lt 9, 3)) mq_132 ci_132 (List.mem_of_getElem? (i := 1) rfl)
theorem cd_132_4 : mt_cd 132 4 = some (.iload_n 1) := mt_cd_of (q := (4, .iload_n 1, 1)) mq_132 ci_132 (List.mem_of_getElem? (i := 2) rfl)
theorem cd_132_5 : mt_cd 132 5 = some (.bipush 10) := mt_cd_of (q := (5, .bipush 10, 2)) mq_132 ci_132 (List.mem_of_getElem? (i := 3) rfl)
theorem cd_132_7 : mt_cd 132 7 = some (.if_icmp .le 13) := mt_cd_of (q := (7, .if_icmp .le 13, 3)) mq_132 ci_132 (List.mem_of_getElem? (i := 4) rfl)
theorem cd_132_10 : mt_cd 132 10 = some (.new 123) := mt_cd_of (q := (10, .new 123, 3)) mq_132 ci_132 (List.mem_of_getElem? (i := 5) rfl)
theorem cd_132_13 : mt_cd 132 13 = some (.dup) := mt_cd_of (q := (13, .dup, 1)) mq_132 ci_132 (List.mem_of_getElem? (i := 6) rfl)
theorem cd_132_14 : mt_cd 132 14 = some (.ldc 226) := mt_cd_of (q := (14, .ldc 226, 2)) mq_132 ci_132 (List.mem_of_getElem? (i := 7) rfl)
theorem cd_132_16 : mt_cd 132 16 = some (.invokespecial 127) := mt_cd_of (q := (16, .invokespecial 127, 3)) mq_132 ci_132 (List.mem_of_getElem? (i := 8) rfl)
theorem cd_132_19 : mt_cd 132 19 = some (.athrow) := mt_cd_of (q := (19, .athrow, 1)) mq_132 ci_132 (List.mem_of_getElem? (i := 9) rfl)
theorem cd_132_20 : mt_cd 132 20 = some (.iload_n 1) := mt_cd_of (q := (20, .iload_n 1, 1)) mq_132 ci_132 (List.mem_of_getElem? (i := 10) rfl)
theorem cd_132_21 : mt_cd 132 21 = some (.tableswitch 124 0 10 #[59, 124, 124, 124, 124, 124, 78, 86, 97, 108, 116]) := mt_cd_of (q := (21, .tableswitch 124 0 10 #[59, 124, 124, 124, 124, 124, 78, 86, 97, 108, 116], 59)) mq_132 ci_132 (List.mem_of_getElem? (i := 11) rfl)
theorem cd_132_80 : mt_cd 132 80 = some (.aload_n 0) := mt_cd_of (q := (80, .aload_n 0, 1)) mq_132 ci_132 (List.mem_of_getElem? (i := 12) rfl)
theorem cd_132_81 : mt_cd 132 81 = some (.getfield 94) := mt_cd_of (q := (81, .getfield 94, 3)) mq_132 ci_132 (List.mem_of_getElem? (i := 13) rfl)
theorem cd_132_84 : mt_cd 132 84 = some (.ifCond .eq 13) := mt_cd_of (q := (84, .ifCond .eq 13, 3)) mq_132 ci_132 (List.mem_of_getElem? (i := 14) rfl)
theorem cd_132_87 : mt_cd 132 87 = some (.aload_n 0) := mt_cd_of (q := (87, .aload_n 0, 1)) mq_132 ci_132 (List.mem_of_getElem? (i := 15) rfl)
theorem cd_132_88 : mt_cd 132 88 = some (.getfield 67) := mt_cd_of (q := (88, .getfield 67, 3)) mq_132 ci_132 (List.mem_of_getElem? (i := 16) rfl)
theorem cd_132_91 : mt_cd 132 91 = some (.getfield 228) := mt_cd_of (q := (91, .getfield 228, 3)) mq_132 ci_132 (List.mem_of_getElem? (i := 17) rfl)
theorem cd_132_94 : mt_cd 132 94 = some (.goto 4) := mt_cd_of (q := (94, .goto 4, 3)) mq_132 ci_132 (List.mem_of_getElem? (i := 18) rfl)
theorem cd_132_97 : mt_cd 132 97 = some (.iconst (-1)) := mt_cd_of (q := (97, .iconst (-1), 1)) mq_132 ci_132 (List.mem_of_getElem? (i := 19) rfl)
theorem cd_132_98 : mt_cd 132 98 = some (.ireturn) := mt_cd_of (q := (98, .ireturn, 1)) mq_132 ci_132 (List.mem_of_getElem? (i := 20) rfl)
theorem cd_132_99 : mt_cd 132 99 = some (.aload_n 0) := mt_cd_of (q := (99, .aload_n 0, 1)) mq_132 ci_132 (List.mem_of_getElem? (i := 21) rfl)
theorem cd_132_100 : mt_cd 132 100 = some (.getfield 42) := mt_cd_of (q := (100, .getfield 42, 3)) mq_132 ci_132 (List.mem_of_getElem? (i := 22) rfl)
theorem cd_132_103 : mt_cd 132 103 = some (.getfield 91) := mt_cd_of (q := (103, .getfield 91, 3)) mq_132 ci_132 (List.mem_of_getElem? (i := 23) rfl)
theorem cd_132_106 : mt_cd 132 106 = some (.ireturn) := mt_cd_of (q := (106, .ireturn, 1)) mq_132 ci_132 (List.mem_of_getElem? (i := 24) rfl)
theorem cd_132_107 : mt_cd 132 107 = some (.aload_n 0) := mt_cd_of (q := (107, .aload_n 0, 1)) mq_132 ci_132 (List.mem_of_getElem? (i := 25) rfl)
theorem cd_132_108 : mt_cd 132 108 = some (.getfield 51) := mt_cd_of (q := (108, .getfield 51, 3)) mq_132 ci_132 (List.mem_of_getElem? (i := 26) rfl)
theorem cd_132_111 : mt_cd 132 111 = some (.getfield 156) := mt_cd_of (q := (111, .getfield 156, 3)) mq_132 ci_132 (List.mem_of_getElem? (i := 27) rfl)
theorem cd_132_114 : mt_cd 132 114 = some (.getfield 160) := mt_cd_of (q := (114, .getfield 160, 3)) mq_132 ci_132 (List.mem_of_getElem? (i := 28) rfl)
theorem cd_132_117 : mt_cd 132 117 = some (.ireturn) := mt_cd_of (q := (117, .ireturn, 1)) mq_132 ci_132 (List.mem_of_getElem? (i := 29) rfl)
theorem cd_132_118 : mt_cd 132 118 = some (.aload_n 0) := mt_cd_of (q := (118, .aload_n 0, 1)) mq_132 ci_132 (List.mem_of_getElem? (i := 30) rfl)
theorem cd_132_119 : mt_cd 132 119 = some (.getfield 51) := mt_cd_of (q := (119, .getfield 51, 3)) mq_132 ci_132 (List.mem_of_getElem? (i := 31) rfl)
theorem cd_132_122 : mt_cd 132 122 = some (.getfield 156) := mt_cd_of (q := (122, .getfield 156, 3)) mq_132 ci_132 (List.mem_of_getElem? (i := 32) rfl)
theorem cd_132_125 : mt_cd 132 125 = some (.getfield 165) := mt_cd_of (q := (125, .getfield 165, 3)) mq_132 ci_132 (List.mem_of_getElem? (i := 33) rfl)
theorem cd_132_128 : mt_cd 132 128 = some (.ireturn) := mt_cd_of (q := (128, .ireturn, 1)) mq_132 ci_132 (List.mem_of_getElem? (i := 34) rfl)
theorem cd_132_129 : mt_cd 132 129 = some (.aload_n 0) := mt_cd_of (q := (129, .aload_n 0, 1)) mq_132 ci_132 (List.mem_of_getElem? (i := 35) rfl)
theorem cd_132_130 : mt_cd 132 130 = some (.getfield 60) := mt_cd_of (q := (130, .getfield 60, 3)) mq_132 ci_132 (List.mem_of_getElem? (i := 36) rfl)
theorem cd_132_133 : mt_cd 132 133 = some (.getfield 231) := mt_cd_of (q := (133, .getfield 231, 3)) mq_132 ci_132 (List.mem_of_getElem? (i := 37) rfl)
theorem cd_132_136 : mt_cd 132 136 = some (.ireturn) := mt_cd_of (q := (136, .ireturn, 1)) mq_132 ci_132 (List.mem_of_getElem? (i := 38) rfl)
theorem cd_132_137 : mt_cd 132 137 = some (.aload_n 0) := mt_cd_of (q := (137, .aload_n 0, 1)) mq_132 ci_132 (List.mem_of_getElem? (i := 39) rfl)
theorem cd_132_138 : mt_cd 132 138 = some (.getfield 60) := mt_cd_of (q := (138, .getfield 60, 3)) mq_132 ci_132 (List.mem_of_getElem? (i := 40) rfl)
theorem cd_132_141 : mt_cd 132 141 = some (.getfield 212) := mt_cd_of (q := (141, .getfield 212, 3)) mq_132 ci_132 (List.mem_of_getElem? (i := 41) rfl)
theorem cd_132_144 : mt_cd 132 144 = some (.ireturn) := mt_cd_of (q := (144, .ireturn, 1)) mq_132 ci_132 (List.mem_of_getElem? (i := 42) rfl)
theorem cd_132_145 : mt_cd 132 145 = some (.aload_n 0) := mt_cd_of (q := (145, .aload_n 0, 1)) mq_132 ci_132 (List.mem_of_getElem? (i := 43) rfl)
theorem cd_132_146 : mt_cd 132 146 = some (.getfield 94) := mt_cd_of (q := (146, .getfield 94, 3)) mq_132 ci_132 (List.mem_of_getElem? (i := 44) rfl)
theorem cd_132_149 : mt_cd 132 149 = some (.ifCond .eq 11) := mt_cd_of (q := (149, .ifCond .eq 11, 3)) mq_132 ci_132 (List.mem_of_getElem? (i := 45) rfl)
theorem cd_132_152 : mt_cd 132 152 = some (.aload_n 0) := mt_cd_of (q := (152, .aload_n 0, 1)) mq_132 ci_132 (List.mem_of_getElem? (i := 46) rfl)
theorem cd_132_153 : mt_cd 132 153 = some (.iload_n 1) := mt_cd_of (q := (153, .iload_n 1, 1)) mq_132 ci_132 (List.mem_of_getElem? (i := 47) rfl)
theorem cd_132_154 : mt_cd 132 154 = some (.invokevirtual 234) := mt_cd_of (q := (154, .invokevirtual 234, 3)) mq_132 ci_132 (List.mem_of_getElem? (i := 48) rfl)
theorem cd_132_157 : mt_cd 132 157 = some (.goto 4) := mt_cd_of (q := (157, .goto 4, 3)) mq_132 ci_132 (List.mem_of_getElem? (i := 49) rfl)
theorem cd_132_160 : mt_cd 132 160 = some (.iconst 0) := mt_cd_of (q := (160, .iconst 0, 1)) mq_132 ci_132 (List.mem_of_getElem? (i := 50) rfl)
theorem cd_132_161 : mt_cd 132 161 = some (.ireturn) := mt_cd_of (q := (161, .ireturn, 1)) mq_132 ci_132 (List.mem_of_getElem? (i := 51) rfl)
theorem b_132_0 {d : Nat} {Q : (Option Value ⊕ Nat) → mi_H → Prop} (n sl : Nat) (f : Nat → mi_C) {l1 : Nat} {l2 : Int32} (h3 : l2 < (0 : Int32) → mi_W d 132 10 [some (.ref l1), some (.int l2)] [] (n, sl, f) Q) (h4 : ¬ (l2 < (0 : Int32)) → mi_W d 132 4 [some (.ref l1), some (.int l2)] [] (n, sl, f) Q) : mi_W d 132 0 [some (.ref l1), some (.int l2)] [] (n, sl, f) Q := by
  refine w_iload_n cd_132_0 rfl ?_
  exact w_iflt cd_132_1 (by decide) h3 h4
theorem b_132_4 {d : Nat} {Q : (Option Value ⊕ Nat) → mi_H → Prop} (n sl : Nat) (f : Nat → mi_C) {l1 : Nat} {l2 : Int32} (h3 : l2 ≤ 10 → mi_W d 132 20 [some (.ref l1), some (.int l2)] [] (n, sl, f) Q) (h4 : ¬ (l2 ≤ 10) → mi_W d 132 10 [some (.ref l1), some (.int l2)] [] (n, sl, f) Q) : mi_W d 132 4 [some (.ref l1), some (.int l2)] [] (n, sl, f) Q := by
  refine w_iload_n cd_132_4 rfl ?_
  refine w_bipush (v := 10) cd_132_5 (by decide) ?_
  exact w_if_icmple cd_132_7 (by decide) h3 h4
theorem b_132_10 {d : Nat} {Q : (Option Value ⊕ Nat) → mi_H → Prop} (n sl : Nat) (f : Nat → mi_C) {l1 : Nat} {l2 : Int32} {h' : mi_H} (h3 : mi_t 132 10 (.new 123) [] (n, sl, f) = some h') (h4 : Q (.inr n) h') : mi_W d 132 10 [some (.ref l1), some (.int l2)] [] (n, sl, f) Q := by
  exact w_throw cd_132_10 (show mt_c 0 123 = some 15 by decide +kernel) (by decide) h3 h4
theorem b_132_20 {d : Nat} {Q : (Option Value ⊕ Nat) → mi_H → Prop} (n sl : Nat) (f : Nat → mi_C) {l1 : Nat} {l2 : Int32} {t3 : Nat} (h4 : mi_ts 21 124 0 10 #[59, 124, 124, 124, 124, 124, 78, 86, 97, 108, 116] (l2 : Int32).toInt = some t3) (h5 : mi_W d 132 t3 [some (.ref l1), some (.int l2)] [] (n, sl, f) Q) : mi_W d 132 20 [some (.ref l1), some (.int l2)] [] (n, sl, f) Q := by
  refine w_iload_n cd_132_20 rfl ?_
  exact w_tableswitch cd_132_21 h4 h5
theorem b_132_80 {d : Nat} {Q : (Option Value ⊕ Nat) → mi_H → Prop} (n sl : Nat) (f : Nat → mi_C) {l1 : Nat} {l2 : Int32} {fs3 : List Value} {x6 : Int32} (h4 : f l1 = .inr (0, fs3)) (h5 : l1 < n) (h7 : fs3[9]? = some (.int x6)) (h8 : x6 = (0 : Int32) → mi_W d 132 97 [some (.ref l1), some (.int l2)] [] (n, sl, f) Q) (h9 : ¬ (x6 = (0 : Int32)) → mi_W d 132 87 [some (.ref l1), some (.int l2)] [] (n, sl, f) Q) : mi_W d 132 80 [some (.ref l1), some (.int l2)] [] (n, sl, f) Q := by
  refine w_aload_n cd_132_80 rfl ?_
  refine w_getfield cd_132_81 (show mt_f 0 94 = some (0, 9) by decide +kernel) h4 h5 h7 ?_
  exact w_ifeq cd_132_84 (by decide) h8 h9
theorem b_132_87 {d : Nat} {Q : (Option Value ⊕ Nat) → mi_H → Prop} (n sl : Nat) (f : Nat → mi_C) {l1 : Nat} {l2 : Int32} {fs3 : List Value} {x6 : Nat} {fs8 : List Value} {x11 : Int32} (h4 : f l1 = .inr (0, fs3)) (h5 : l1 < n) (h7 : fs3[7]? = some (.ref x6)) (h9 : f x6 = .inr (9, fs8)) (h10 : x6 < n) (h12 : fs8[0]? = some (.int x11)) (h13 : mi_W d 132 98 [some (.ref l1), some (.int l2)] [.int x11] (n, sl, f) Q) : mi_W d 132 87 [some (.ref l1), some (.int l2)] [] (n, sl, f) Q := by
  refine w_aload_n cd_132_87 rfl ?_
  refine w_getfield cd_132_88 (show mt_f 0 67 = some (0, 7) by decide +kernel) h4 h5 h7 ?_
  refine w_getfield cd_132_91 (show mt_f 0 228 = some (9, 0) by decide +kernel) h9 h10 h12 ?_
  exact w_goto cd_132_94 (by decide) h13
theorem b_132_97 {d : Nat} {Q : (Option Value ⊕ Nat) → mi_H → Prop} (n sl : Nat) (f : Nat → mi_C) {l1 : Nat} {l2 : Int32} (h3 : mi_W d 132 98 [some (.ref l1), some (.int l2)] [.int (-1)] (n, sl, f) Q) : mi_W d 132 97 [some (.ref l1), some (.int l2)] [] (n, sl, f) Q := by
  refine w_iconst (v := (-1)) cd_132_97 (by decide) ?_
  exact h3
theorem b_132_98 {d : Nat} {Q : (Option Value ⊕ Nat) → mi_H → Prop} (n sl : Nat) (f : Nat → mi_C) {l1 : Nat} {l2 : Int32} {s3 : Int32} (h4 : Q (.inl (some (.int s3))) (n, sl, f)) : mi_W d 132 98 [some (.ref l1), some (.int l2)] [.int s3] (n, sl, f) Q := by
  exact w_ireturn_i cd_132_98 (by decide +kernel) h4
theorem b_132_99 {d : Nat} {Q : (Option Value ⊕ Nat) → mi_H → Prop} (n sl : Nat) (f : Nat → mi_C) {l1 : Nat} {l2 : Int32} {fs3 : List Value} {x6 : Nat} {fs8 : List Value} {x11 : Int32} (h4 : f l1 = .inr (0, fs3)) (h5 : l1 < n) (h7 : fs3[4]? = some (.ref x6)) (h9 : f x6 = .inr (6, fs8)) (h10 : x6 < n) (h12 : fs8[5]? = some (.int x11)) (h13 : Q (.inl (some (.int x11))) (n, sl, f)) : mi_W d 132 99 [some (.ref l1), some (.int l2)] [] (n, sl, f) Q := by
  refine w_aload_n cd_132_99 rfl ?_
  refine w_getfield cd_132_100 (show mt_f 0 42 = some (0, 4) by decide +kernel) h4 h5 h7 ?_
  refine w_getfield cd_132_103 (show mt_f 0 91 = some (6, 5) by decide +kernel) h9 h10 h12 ?_
  exact w_ireturn_i cd_132_106 (by decide +kernel) h13
theorem b_132_107 {d : Nat} {Q : (Option Value ⊕ Nat) → mi_H → Prop} (n sl : Nat) (f : Nat → mi_C) {l1 : Nat} {l2 : Int32} {fs3 : List Value} {x6 : Nat} {fs8 : List Value} {x11 : Nat} {fs13 : List Value} {x16 : Int32} (h4 : f l1 = .inr (0, fs3)) (h5 : l1 < n) (h7 : fs3[5]? = some (.ref x6)) (h9 : f x6 = .inr (7, fs8)) (h10 : x6 < n) (h12 : fs8[7]? = some (.ref x11)) (h14 : f x11 = .inr (8, fs13)) (h15 : x11 < n) (h17 : fs13[6]? = some (.int x16)) (h18 : Q (.inl (some (.int x16))) (n, sl, f)) : mi_W d 132 107 [some (.ref l1), some (.int l2)] [] (n, sl, f) Q := by
  refine w_aload_n cd_132_107 rfl ?_
  refine w_getfield cd_132_108 (show mt_f 0 51 = some (0, 5) by decide +kernel) h4 h5 h7 ?_
  refine w_getfield cd_132_111 (show mt_f 0 156 = some (7, 7) by decide +kernel) h9 h10 h12 ?_
  refine w_getfield cd_132_114 (show mt_f 0 160 = some (8, 6) by decide +kernel) h14 h15 h17 ?_
  exact w_ireturn_i cd_132_117 (by decide +kernel) h18
theorem b_132_118 {d : Nat} {Q : (Option Value ⊕ Nat) → mi_H → Prop} (n sl : Nat) (f : Nat → mi_C) {l1 : Nat} {l2 : Int32} {fs3 : List Value} {x6 : Nat} {fs8 : List Value} {x11 : Nat} {fs13 : List Value} {x16 : Int32} (h4 : f l1 = .inr (0, fs3)) (h5 : l1 < n) (h7 : fs3[5]? = some (.ref x6)) (h9 : f x6 = .inr (7, fs8)) (h10 : x6 < n) (h12 : fs8[7]? = some (.ref x11)) (h14 : f x11 = .inr (8, fs13)) (h15 : x11 < n) (h17 : fs13[7]? = some (.int x16)) (h18 : Q (.inl (some (.int x16))) (n, sl, f)) : mi_W d 132 118 [some (.ref l1), some (.int l2)] [] (n, sl, f) Q := by
  refine w_aload_n cd_132_118 rfl ?_
  refine w_getfield cd_132_119 (show mt_f 0 51 = some (0, 5) by decide +kernel) h4 h5 h7 ?_
  refine w_getfield cd_132_122 (show mt_f 0 156 = some (7, 7) by decide +kernel) h9 h10 h12 ?_
  refine w_getfield cd_132_125 (show mt_f 0 165 = some (8, 7) by decide +kernel) h14 h15 h17 ?_
  exact w_ireturn_i cd_132_128 (by decide +kernel) h18
theorem b_132_129 {d : Nat} {Q : (Option Value ⊕ Nat) → mi_H → Prop} (n sl : Nat) (f : Nat → mi_C) {l1 : Nat} {l2 : Int32} {fs3 : List Value} {x6 : Nat} {fs8 : List Value} {x11 : Int32} (h4 : f l1 = .inr (0, fs3)) (h5 : l1 < n) (h7 : fs3[6]? = some (.ref x6)) (h9 : f x6 = .inr (11, fs8)) (h10 : x6 < n) (h12 : fs8[10]? = some (.int x11)) (h13 : Q (.inl (some (.int x11))) (n, sl, f)) : mi_W d 132 129 [some (.ref l1), some (.int l2)] [] (n, sl, f) Q := by
  refine w_aload_n cd_132_129 rfl ?_
  refine w_getfield cd_132_130 (show mt_f 0 60 = some (0, 6) by decide +kernel) h4 h5 h7 ?_
  refine w_getfield cd_132_133 (show mt_f 0 231 = some (11, 10) by decide +kernel) h9 h10 h12 ?_
  exact w_ireturn_i cd_132_136 (by decide +kernel) h13
theorem b_132_137 {d : Nat} {Q : (Option Value ⊕ Nat) → mi_H → Prop} (n sl : Nat) (f : Nat → mi_C) {l1 : Nat} {l2 : Int32} {fs3 : List Value} {x6 : Nat} {fs8 : List Value} {x11 : Int32} (h4 : f l1 = .inr (0, fs3)) (h5 : l1 < n) (h7 : fs3[6]? = some (.ref x6)) (h9 : f x6 = .inr (11, fs8)) (h10 : x6 < n) (h12 : fs8[11]? = some (.int x11)) (h13 : Q (.inl (some (.int x11))) (n, sl, f)) : mi_W d 132 137 [some (.ref l1), some (.int l2)] [] (n, sl, f) Q := by
  refine w_aload_n cd_132_137 rfl ?_
  refine w_getfield cd_132_138 (show mt_f 0 60 = some (0, 6) by decide +kernel) h4 h5 h7 ?_
  refine w_getfield cd_132_141 (show mt_f 0 212 = some (11, 11) by decide +kernel) h9 h10 h12 ?_
  exact w_ireturn_i cd_132_144 (by decide +kernel) h13
theorem b_132_145 {d : Nat} {Q : (Option Value ⊕ Nat) → mi_H → Prop} (n sl : Nat) (f : Nat → mi_C) {l1 : Nat} {l2 : Int32} {fs3 : List Value} {x6 : Int32} (h4 : f l1 = .inr (0, fs3)) (h5 : l1 < n) (h7 : fs3[9]? = some (.int x6)) (h8 : x6 = (0 : Int32) → mi_W d 132 160 [some (.ref l1), some (.int l2)] [] (n, sl, f) Q) (h9 : ¬ (x6 = (0 : Int32)) → mi_W d 132 152 [some (.ref l1), some (.int l2)] [] (n, sl, f) Q) : mi_W d 132 145 [some (.ref l1), some (.int l2)] [] (n, sl, f) Q := by
  refine w_aload_n cd_132_145 rfl ?_
  refine w_getfield cd_132_146 (show mt_f 0 94 = some (0, 9) by decide +kernel) h4 h5 h7 ?_
  exact w_ifeq cd_132_149 (by decide) h8 h9
theorem b_132_152 {d : Nat} {Q : (Option Value ⊕ Nat) → mi_H → Prop} (n sl : Nat) (f : Nat → mi_C) {l1 : Nat} {l2 : Int32} {fs3 : List Value} (h4 : f l1 = .inr (0, fs3)) (h5 : l1 < n) (h6 : mi_W d 133 0 (mi_en 2 [.ref l1, .int l2]) [] (n, sl, f) (mi_Kc d 132 154 [some (.ref l1), some (.int l2)] [] Q)) : mi_W (d + 1) 132 152 [some (.ref l1), some (.int l2)] [] (n, sl, f) Q := by
  refine w_aload_n cd_132_152 rfl ?_
  refine w_iload_n cd_132_153 rfl ?_
  exact w_invokevirtual cd_132_154 (show mt_m 0 234 = some (133, 0) by decide +kernel) (rest := []) rfl (as := [.ref l1, .int l2]) rfl h4 (Or.inl h5) ⟨Nat.le_of_ble_eq_true rfl, Nat.le_of_ble_eq_true rfl, Nat.le_of_ble_eq_true rfl⟩ h6
theorem b_132_157 {d : Nat} {Q : (Option Value ⊕ Nat) → mi_H → Prop} (n sl : Nat) (f : Nat → mi_C) {l1 : Nat} {l2 : Int32} {s3 : Int32} (h4 : mi_W d 132 161 [some (.ref l1), some (.int l2)] [.int s3] (n, sl, f) Q) : mi_W d 132 157 [some (.ref l1), some (.int l2)] [.int s3] (n, sl, f) Q := by
  exact w_goto cd_132_157 (by decide) h4
theorem b_132_160 {d : Nat} {Q : (Option Value ⊕ Nat) → mi_H → Prop} (n sl : Nat) (f : Nat → mi_C) {l1 : Nat} {l2 : Int32} (h3 : mi_W d 132 161 [some (.ref l1), some (.int l2)] [.int 0] (n, sl, f) Q) : mi_W d 132 160 [some (.ref l1), some (.int l2)] [] (n, sl, f) Q := by
  refine w_iconst (v := 0) cd_132_160 (by decide) ?_
  exact h3
theorem b_132_161 {d : Nat} {Q : (Option Value ⊕ Nat) → mi_H → Prop} (n sl : Nat) (f : Nat → mi_C) {l1 : Nat} {l2 : Int32} {s3 : Int32} (h4 : Q (.inl (some (.int s3))) (n, sl, f)) : mi_W d 132 161 [some (.ref l1), some (.int l2)] [.int s3] (n, sl, f) Q := by
  exact w_ireturn_i cd_132_161 (by decide +kernel) h4
/-! MarloweHost.countInText(I)I -/
set_option maxRecDepth 100000 in
theorem mq_133 : mt_q 133 = my_133 := rfl
set_option maxRecDepth 100000 in
theorem ci_133 : mt_inc 0 my_133.cd = true := by decide +kernel
theorem cd_133_0 : mt_cd 133 0 = some (.iload_n 1) := mt_cd_of (q := (0, .iload_n 1, 1)) mq_133 ci_133 (List.mem_of_getElem? (i := 0) rfl)
theorem cd_133_1 : mt_cd 133 1 = some (.tableswitch 72 1 4 #[31, 39, 50, 61]) := mt_cd_of (q := (1, .tableswitch 72 1 4 #[31, 39, 50, 61], 31)) mq_133 ci_133 (List.mem_of_getElem? (i := 1) rfl)
theorem cd_133_32 : mt_cd 133 32 = some (.aload_n 0) := mt_cd_of (q := (32, .aload_n 0, 1)) mq_133 ci_133 (List.mem_of_getElem? (i := 2) rfl)
theorem cd_133_33 : mt_cd 133 33 = some (.getfield 19) := mt_cd_of (q := (33, .getfield 19, 3)) mq_133 ci_133 (List.mem_of_getElem? (i := 3) rfl)
theorem cd_133_36 : mt_cd 133 36 = some (.getfield 110) := mt_cd_of (q := (36, .getfield 110, 3)) mq_133 ci_133 (List.mem_of_getElem? (i := 4) rfl)
theorem cd_133_39 : mt_cd 133 39 = some (.ireturn) := mt_cd_of (q := (39, .ireturn, 1)) mq_133 ci_133 (List.mem_of_getElem? (i := 5) rfl)
theorem cd_133_40 : mt_cd 133 40 = some (.aload_n 0) := mt_cd_of (q := (40, .aload_n 0, 1)) mq_133 ci_133 (List.mem_of_getElem? (i := 6) rfl)
theorem cd_133_41 : mt_cd 133 41 = some (.getfield 28) := mt_cd_of (q := (41, .getfield 28, 3)) mq_133 ci_133 (List.mem_of_getElem? (i := 7) rfl)
theorem cd_133_44 : mt_cd 133 44 = some (.getfield 237) := mt_cd_of (q := (44, .getfield 237, 3)) mq_133 ci_133 (List.mem_of_getElem? (i := 8) rfl)
theorem cd_133_47 : mt_cd 133 47 = some (.getfield 241) := mt_cd_of (q := (47, .getfield 241, 3)) mq_133 ci_133 (List.mem_of_getElem? (i := 9) rfl)
theorem cd_133_50 : mt_cd 133 50 = some (.ireturn) := mt_cd_of (q := (50, .ireturn, 1)) mq_133 ci_133 (List.mem_of_getElem? (i := 10) rfl)
theorem cd_133_51 : mt_cd 133 51 = some (.aload_n 0) := mt_cd_of (q := (51, .aload_n 0, 1)) mq_133 ci_133 (List.mem_of_getElem? (i := 11) rfl)
theorem cd_133_52 : mt_cd 133 52 = some (.getfield 28) := mt_cd_of (q := (52, .getfield 28, 3)) mq_133 ci_133 (List.mem_of_getElem? (i := 12) rfl)
theorem cd_133_55 : mt_cd 133 55 = some (.getfield 244) := mt_cd_of (q := (55, .getfield 244, 3)) mq_133 ci_133 (List.mem_of_getElem? (i := 13) rfl)
theorem cd_133_58 : mt_cd 133 58 = some (.getfield 241) := mt_cd_of (q := (58, .getfield 241, 3)) mq_133 ci_133 (List.mem_of_getElem? (i := 14) rfl)
theorem cd_133_61 : mt_cd 133 61 = some (.ireturn) := mt_cd_of (q := (61, .ireturn, 1)) mq_133 ci_133 (List.mem_of_getElem? (i := 15) rfl)
theorem cd_133_62 : mt_cd 133 62 = some (.aload_n 0) := mt_cd_of (q := (62, .aload_n 0, 1)) mq_133 ci_133 (List.mem_of_getElem? (i := 16) rfl)
theorem cd_133_63 : mt_cd 133 63 = some (.getfield 28) := mt_cd_of (q := (63, .getfield 28, 3)) mq_133 ci_133 (List.mem_of_getElem? (i := 17) rfl)
theorem cd_133_66 : mt_cd 133 66 = some (.getfield 247) := mt_cd_of (q := (66, .getfield 247, 3)) mq_133 ci_133 (List.mem_of_getElem? (i := 18) rfl)
theorem cd_133_69 : mt_cd 133 69 = some (.getfield 241) := mt_cd_of (q := (69, .getfield 241, 3)) mq_133 ci_133 (List.mem_of_getElem? (i := 19) rfl)
theorem cd_133_72 : mt_cd 133 72 = some (.ireturn) := mt_cd_of (q := (72, .ireturn, 1)) mq_133 ci_133 (List.mem_of_getElem? (i := 20) rfl)
theorem cd_133_73 : mt_cd 133 73 = some (.aload_n 0) := mt_cd_of (q := (73, .aload_n 0, 1)) mq_133 ci_133 (List.mem_of_getElem? (i := 21) rfl)
theorem cd_133_74 : mt_cd 133 74 = some (.getfield 28) := mt_cd_of (q := (74, .getfield 28, 3)) mq_133 ci_133 (List.mem_of_getElem? (i := 22) rfl)
theorem cd_133_77 : mt_cd 133 77 = some (.getfield 250) := mt_cd_of (q := (77, .getfield 250, 3)) mq_133 ci_133 (List.mem_of_getElem? (i := 23) rfl)
theorem cd_133_80 : mt_cd 133 80 = some (.getfield 241) := mt_cd_of (q := (80, .getfield 241, 3)) mq_133 ci_133 (List.mem_of_getElem? (i := 24) rfl)
theorem cd_133_83 : mt_cd 133 83 = some (.ireturn) := mt_cd_of (q := (83, .ireturn, 1)) mq_133 ci_133 (List.mem_of_getElem? (i := 25) rfl)
theorem b_133_0 {d : Nat} {Q : (Option Value ⊕ Nat) → mi_H → Prop} (n sl : Nat) (f : Nat → mi_C) {l1 : Nat} {l2 : Int32} {t3 : Nat} (h4 : mi_ts 1 72 1 4 #[31, 39, 50, 61] (l2 : Int32).toInt = some t3) (h5 : mi_W d 133 t3 [some (.ref l1), some (.int l2)] [] (n, sl, f) Q) : mi_W d 133 0 [some (.ref l1), some (.int l2)] [] (n, sl, f) Q := by
  refine w_iload_n cd_133_0 rfl ?_
  exact w_tableswitch cd_133_1 h4 h5
theorem b_133_32 {d : Nat} {Q : (Option Value ⊕ Nat) → mi_H → Prop} (n sl : Nat) (f : Nat → mi_C) {l1 : Nat} {l2 : Int32} {fs3 : List Value} {x6 : Nat} {fs8 : List Value} {x11 : Int32} (h4 : f l1 = .inr (0, fs3)) (h5 : l1 < n) (h7 : fs3[1]? = some (.ref x6)) (h9 : f x6 = .inr (2, fs8)) (h10 : x6 < n) (h12 : fs8[11]? = some (.int x11)) (h13 : Q (.inl (some (.int x11))) (n, sl, f)) : mi_W d 133 32 [some (.ref l1), some (.int l2)] [] (n, sl, f) Q := by
  refine w_aload_n cd_133_32 rfl ?_
  refine w_getfield cd_133_33 (show mt_f 0 19 = some (0, 1) by decide +kernel) h4 h5 h7 ?_
  refine w_getfield cd_133_36 (show mt_f 0 110 = some (2, 11) by decide +kernel) h9 h10 h12 ?_
  exact w_ireturn_i cd_133_39 (by decide +kernel) h13
theorem b_133_40 {d : Nat} {Q : (Option Value ⊕ Nat) → mi_H → Prop} (n sl : Nat) (f : Nat → mi_C) {l1 : Nat} {l2 : Int32} {fs3 : List Value} {x6 : Nat} {fs8 : List Value} {x11 : Nat} {fs13 : List Value} {x16 : Int32} (h4 : f l1 = .inr (0, fs3)) (h5 : l1 < n) (h7 : fs3[2]? = some (.ref x6)) (h9 : f x6 = .inr (3, fs8)) (h10 : x6 < n) (h12 : fs8[2]? = some (.ref x11)) (h14 : f x11 = .inr (4, fs13)) (h15 : x11 < n) (h17 : fs13[4]? = some (.int x16)) (h18 : Q (.inl (some (.int x16))) (n, sl, f)) : mi_W d 133 40 [some (.ref l1), some (.int l2)] [] (n, sl, f) Q := by
  refine w_aload_n cd_133_40 rfl ?_
  refine w_getfield cd_133_41 (show mt_f 0 28 = some (0, 2) by decide +kernel) h4 h5 h7 ?_
  refine w_getfield cd_133_44 (show mt_f 0 237 = some (3, 2) by decide +kernel) h9 h10 h12 ?_
  refine w_getfield cd_133_47 (show mt_f 0 241 = some (4, 4) by decide +kernel) h14 h15 h17 ?_
  exact w_ireturn_i cd_133_50 (by decide +kernel) h18
theorem b_133_51 {d : Nat} {Q : (Option Value ⊕ Nat) → mi_H → Prop} (n sl : Nat) (f : Nat → mi_C) {l1 : Nat} {l2 : Int32} {fs3 : List Value} {x6 : Nat} {fs8 : List Value} {x11 : Nat} {fs13 : List Value} {x16 : Int32} (h4 : f l1 = .inr (0, fs3)) (h5 : l1 < n) (h7 : fs3[2]? = some (.ref x6)) (h9 : f x6 = .inr (3, fs8)) (h10 : x6 < n) (h12 : fs8[3]? = some (.ref x11)) (h14 : f x11 = .inr (4, fs13)) (h15 : x11 < n) (h17 : fs13[4]? = some (.int x16)) (h18 : Q (.inl (some (.int x16))) (n, sl, f)) : mi_W d 133 51 [some (.ref l1), some (.int l2)] [] (n, sl, f) Q := by
  refine w_aload_n cd_133_51 rfl ?_
  refine w_getfield cd_133_52 (show mt_f 0 28 = some (0, 2) by decide +kernel) h4 h5 h7 ?_
  refine w_getfield cd_133_55 (show mt_f 0 244 = some (3, 3) by decide +kernel) h9 h10 h12 ?_
  refine w_getfield cd_133_58 (show mt_f 0 241 = some (4, 4) by decide +kernel) h14 h15 h17 ?_
  exact w_ireturn_i cd_133_61 (by decide +kernel) h18
theorem b_133_62 {d : Nat} {Q : (Option Value ⊕ Nat) → mi_H → Prop} (n sl : Nat) (f : Nat → mi_C) {l1 : Nat} {l2 : Int32} {fs3 : List Value} {x6 : Nat} {fs8 : List Value} {x11 : Nat} {fs13 : List Value} {x16 : Int32} (h4 : f l1 = .inr (0, fs3)) (h5 : l1 < n) (h7 : fs3[2]? = some (.ref x6)) (h9 : f x6 = .inr (3, fs8)) (h10 : x6 < n) (h12 : fs8[4]? = some (.ref x11)) (h14 : f x11 = .inr (4, fs13)) (h15 : x11 < n) (h17 : fs13[4]? = some (.int x16)) (h18 : Q (.inl (some (.int x16))) (n, sl, f)) : mi_W d 133 62 [some (.ref l1), some (.int l2)] [] (n, sl, f) Q := by
  refine w_aload_n cd_133_62 rfl ?_
  refine w_getfield cd_133_63 (show mt_f 0 28 = some (0, 2) by decide +kernel) h4 h5 h7 ?_
  refine w_getfield cd_133_66 (show mt_f 0 247 = some (3, 4) by decide +kernel) h9 h10 h12 ?_
  refine w_getfield cd_133_69 (show mt_f 0 241 = some (4, 4) by decide +kernel) h14 h15 h17 ?_
  exact w_ireturn_i cd_133_72 (by decide +kernel) h18
theorem b_133_73 {d : Nat} {Q : (Option Value ⊕ Nat) → mi_H → Prop} (n sl : Nat) (f : Nat → mi_C) {l1 : Nat} {l2 : Int32} {fs3 : List Value} {x6 : Nat} {fs8 : List Value} {x11 : Nat} {fs13 : List Value} {x16 : Int32} (h4 : f l1 = .inr (0, fs3)) (h5 : l1 < n) (h7 : fs3[2]? = some (.ref x6)) (h9 : f x6 = .inr (3, fs8)) (h10 : x6 < n) (h12 : fs8[5]? = some (.ref x11)) (h14 : f x11 = .inr (4, fs13)) (h15 : x11 < n) (h17 : fs13[4]? = some (.int x16)) (h18 : Q (.inl (some (.int x16))) (n, sl, f)) : mi_W d 133 73 [some (.ref l1), some (.int l2)] [] (n, sl, f) Q := by
  refine w_aload_n cd_133_73 rfl ?_
  refine w_getfield cd_133_74 (show mt_f 0 28 = some (0, 2) by decide +kernel) h4 h5 h7 ?_
  refine w_getfield cd_133_77 (show mt_f 0 250 = some (3, 5) by decide +kernel) h9 h10 h12 ?_
  refine w_getfield cd_133_80 (show mt_f 0 241 = some (4, 4) by decide +kernel) h14 h15 h17 ?_
  exact w_ireturn_i cd_133_83 (by decide +kernel) h18
/-! MarloweHostModel.<init>()V -/
set_option maxRecDepth 100000 in
theorem mq_134 : mt_q 134 = my_134 := rfl
set_option maxRecDepth 100000 in
theorem ci_134 : mt_inc 0 my_134.cd = true := by decide +kernel
theorem cd_134_0 : mt_cd 134 0 = some (.aload_n 0) := mt_cd_of (q := (0, .aload_n 0, 1)) mq_134 ci_134 (List.mem_append_left _ (show _ ∈ my_134_0 from List.mem_of_getElem? (i := 0) rfl))
theorem cd_134_1 : mt_cd 134 1 = some (.invokespecial 1) := mt_cd_of (q := (1, .invokespecial 1, 3)) mq_134 ci_134 (List.mem_append_left _ (show _ ∈ my_134_0 from List.mem_of_getElem? (i := 1) rfl))
theorem cd_134_4 : mt_cd 134 4 = some (.aload_n 0) := mt_cd_of (q := (4, .aload_n 0, 1)) mq_134 ci_134 (List.mem_append_left _ (show _ ∈ my_134_0 from List.mem_of_getElem? (i := 2) rfl))
theorem cd_134_5 : mt_cd 134 5 = some (.iconst (-1)) := mt_cd_of (q := (5, .iconst (-1), 1)) mq_134 ci_134 (List.mem_append_left _ (show _ ∈ my_134_0 from List.mem_of_getElem? (i := 3) rfl))
theorem cd_134_6 : mt_cd 134 6 = some (.putfield 7) := mt_cd_of (q := (6, .putfield 7, 3)) mq_134 ci_134 (List.mem_append_left _ (show _ ∈ my_134_0 from List.mem_of_getElem? (i := 4) rfl))
theorem cd_134_9 : mt_cd 134 9 = some (.aload_n 0) := mt_cd_of (q := (9, .aload_n 0, 1)) mq_134 ci_134 (List.mem_append_left _ (show _ ∈ my_134_0 from List.mem_of_getElem? (i := 5) rfl))
theorem cd_134_10 : mt_cd 134 10 = some (.iconst (-1)) := mt_cd_of (q := (10, .iconst (-1), 1)) mq_134 ci_134 (List.mem_append_left _ (show _ ∈ my_134_0 from List.mem_of_getElem? (i := 6) rfl))
theorem cd_134_11 : mt_cd 134 11 = some (.putfield 13) := mt_cd_of (q := (11, .putfield 13, 3)) mq_134 ci_134 (List.mem_append_left _ (show _ ∈ my_134_0 from List.mem_of_getElem? (i := 7) rfl))
theorem cd_134_14 : mt_cd 134 14 = some (.aload_n 0) := mt_cd_of (q := (14, .aload_n 0, 1)) mq_134 ci_134 (List.mem_append_left _ (show _ ∈ my_134_0 from List.mem_of_getElem? (i := 8) rfl))
theorem cd_134_15 : mt_cd 134 15 = some (.sipush 8200) := mt_cd_of (q := (15, .sipush 8200, 3)) mq_134 ci_134 (List.mem_append_left _ (show _ ∈ my_134_0 from List.mem_of_getElem? (i := 9) rfl))
theorem cd_134_18 : mt_cd 134 18 = some (.newarray .int) := mt_cd_of (q := (18, .newarray .int, 2)) mq_134 ci_134 (List.mem_append_left _ (show _ ∈ my_134_0 from List.mem_of_getElem? (i := 10) rfl))
theorem cd_134_20 : mt_cd 134 20 = some (.putfield 16) := mt_cd_of (q := (20, .putfield 16, 3)) mq_134 ci_134 (List.mem_append_left _ (show _ ∈ my_134_0 from List.mem_of_getElem? (i := 11) rfl))
theorem cd_134_23 : mt_cd 134 23 = some (.aload_n 0) := mt_cd_of (q := (23, .aload_n 0, 1)) mq_134 ci_134 (List.mem_append_left _ (show _ ∈ my_134_0 from List.mem_of_getElem? (i := 12) rfl))
theorem cd_134_24 : mt_cd 134 24 = some (.sipush 8192) := mt_cd_of (q := (24, .sipush 8192, 3)) mq_134 ci_134 (List.mem_append_left _ (show _ ∈ my_134_0 from List.mem_of_getElem? (i := 13) rfl))
theorem cd_134_27 : mt_cd 134 27 = some (.newarray .int) := mt_cd_of (q := (27, .newarray .int, 2)) mq_134 ci_134 (List.mem_append_left _ (show _ ∈ my_134_0 from List.mem_of_getElem? (i := 14) rfl))
theorem cd_134_29 : mt_cd 134 29 = some (.putfield 20) := mt_cd_of (q := (29, .putfield 20, 3)) mq_134 ci_134 (List.mem_append_left _ (show _ ∈ my_134_0 from List.mem_of_getElem? (i := 15) rfl))
theorem cd_134_32 : mt_cd 134 32 = some (.aload_n 0) := mt_cd_of (q := (32, .aload_n 0, 1)) mq_134 ci_134 (List.mem_append_left _ (show _ ∈ my_134_0 from List.mem_of_getElem? (i := 16) rfl))
theorem cd_134_33 : mt_cd 134 33 = some (.bipush 24) := mt_cd_of (q := (33, .bipush 24, 2)) mq_134 ci_134 (List.mem_append_left _ (show _ ∈ my_134_0 from List.mem_of_getElem? (i := 17) rfl))
theorem cd_134_35 : mt_cd 134 35 = some (.anewarray 23) := mt_cd_of (q := (35, .anewarray 23, 3)) mq_134 ci_134 (List.mem_append_left _ (show _ ∈ my_134_0 from List.mem_of_getElem? (i := 18) rfl))
theorem cd_134_38 : mt_cd 134 38 = some (.dup) := mt_cd_of (q := (38, .dup, 1)) mq_134 ci_134 (List.mem_append_left _ (show _ ∈ my_134_0 from List.mem_of_getElem? (i := 19) rfl))
theorem cd_134_39 : mt_cd 134 39 = some (.iconst 0) := mt_cd_of (q := (39, .iconst 0, 1)) mq_134 ci_134 (List.mem_append_left _ (show _ ∈ my_134_0 from List.mem_of_getElem? (i := 20) rfl))
theorem cd_134_40 : mt_cd 134 40 = some (.ldc 25) := mt_cd_of (q := (40, .ldc 25, 2)) mq_134 ci_134 (List.mem_append_left _ (show _ ∈ my_134_0 from List.mem_of_getElem? (i := 21) rfl))
theorem cd_134_42 : mt_cd 134 42 = some (.aastore) := mt_cd_of (q := (42, .aastore, 1)) mq_134 ci_134 (List.mem_append_left _ (show _ ∈ my_134_0 from List.mem_of_getElem? (i := 22) rfl))
theorem cd_134_43 : mt_cd 134 43 = some (.dup) := mt_cd_of (q := (43, .dup, 1)) mq_134 ci_134 (List.mem_append_left _ (show _ ∈ my_134_0 from List.mem_of_getElem? (i := 23) rfl))
theorem cd_134_44 : mt_cd 134 44 = some (.iconst 1) := mt_cd_of (q := (44, .iconst 1, 1)) mq_134 ci_134 (List.mem_append_left _ (show _ ∈ my_134_0 from List.mem_of_getElem? (i := 24) rfl))
theorem cd_134_45 : mt_cd 134 45 = some (.ldc 27) := mt_cd_of (q := (45, .ldc 27, 2)) mq_134 ci_134 (List.mem_append_left _ (show _ ∈ my_134_0 from List.mem_of_getElem? (i := 25) rfl))
theorem cd_134_47 : mt_cd 134 47 = some (.aastore) := mt_cd_of (q := (47, .aastore, 1)) mq_134 ci_134 (List.mem_append_left _ (show _ ∈ my_134_0 from List.mem_of_getElem? (i := 26) rfl))
theorem cd_134_48 : mt_cd 134 48 = some (.dup) := mt_cd_of (q := (48, .dup, 1)) mq_134 ci_134 (List.mem_append_left _ (show _ ∈ my_134_0 from List.mem_of_getElem? (i := 27) rfl))
theorem cd_134_49 : mt_cd 134 49 = some (.iconst 2) := mt_cd_of (q := (49, .iconst 2, 1)) mq_134 ci_134 (List.mem_append_left _ (show _ ∈ my_134_0 from List.mem_of_getElem? (i := 28) rfl))
theorem cd_134_50 : mt_cd 134 50 = some (.ldc 29) := mt_cd_of (q := (50, .ldc 29, 2)) mq_134 ci_134 (List.mem_append_left _ (show _ ∈ my_134_0 from List.mem_of_getElem? (i := 29) rfl))
theorem cd_134_52 : mt_cd 134 52 = some (.aastore) := mt_cd_of (q := (52, .aastore, 1)) mq_134 ci_134 (List.mem_append_left _ (show _ ∈ my_134_0 from List.mem_of_getElem? (i := 30) rfl))
theorem cd_134_53 : mt_cd 134 53 = some (.dup) := mt_cd_of (q := (53, .dup, 1)) mq_134 ci_134 (List.mem_append_left _ (show _ ∈ my_134_0 from List.mem_of_getElem? (i := 31) rfl))
theorem cd_134_54 : mt_cd 134 54 = some (.iconst 3) := mt_cd_of (q := (54, .iconst 3, 1)) mq_134 ci_134 (List.mem_append_left _ (show _ ∈ my_134_0 from List.mem_of_getElem? (i := 32) rfl))
theorem cd_134_55 : mt_cd 134 55 = some (.ldc 31) := mt_cd_of (q := (55, .ldc 31, 2)) mq_134 ci_134 (List.mem_append_left _ (show _ ∈ my_134_0 from List.mem_of_getElem? (i := 33) rfl))
theorem cd_134_57 : mt_cd 134 57 = some (.aastore) := mt_cd_of (q := (57, .aastore, 1)) mq_134 ci_134 (List.mem_append_left _ (show _ ∈ my_134_0 from List.mem_of_getElem? (i := 34) rfl))
theorem cd_134_58 : mt_cd 134 58 = some (.dup) := mt_cd_of (q := (58, .dup, 1)) mq_134 ci_134 (List.mem_append_left _ (show _ ∈ my_134_0 from List.mem_of_getElem? (i := 35) rfl))
theorem cd_134_59 : mt_cd 134 59 = some (.iconst 4) := mt_cd_of (q := (59, .iconst 4, 1)) mq_134 ci_134 (List.mem_append_left _ (show _ ∈ my_134_0 from List.mem_of_getElem? (i := 36) rfl))
theorem cd_134_60 : mt_cd 134 60 = some (.ldc 33) := mt_cd_of (q := (60, .ldc 33, 2)) mq_134 ci_134 (List.mem_append_left _ (show _ ∈ my_134_0 from List.mem_of_getElem? (i := 37) rfl))
theorem cd_134_62 : mt_cd 134 62 = some (.aastore) := mt_cd_of (q := (62, .aastore, 1)) mq_134 ci_134 (List.mem_append_left _ (show _ ∈ my_134_0 from List.mem_of_getElem? (i := 38) rfl))
theorem cd_134_63 : mt_cd 134 63 = some (.dup) := mt_cd_of (q := (63, .dup, 1)) mq_134 ci_134 (List.mem_append_left _ (show _ ∈ my_134_0 from List.mem_of_getElem? (i := 39) rfl))
theorem cd_134_64 : mt_cd 134 64 = some (.iconst 5) := mt_cd_of (q := (64, .iconst 5, 1)) mq_134 ci_134 (List.mem_append_left _ (show _ ∈ my_134_0 from List.mem_of_getElem? (i := 40) rfl))
theorem cd_134_65 : mt_cd 134 65 = some (.ldc 35) := mt_cd_of (q := (65, .ldc 35, 2)) mq_134 ci_134 (List.mem_append_left _ (show _ ∈ my_134_0 from List.mem_of_getElem? (i := 41) rfl))
theorem cd_134_67 : mt_cd 134 67 = some (.aastore) := mt_cd_of (q := (67, .aastore, 1)) mq_134 ci_134 (List.mem_append_left _ (show _ ∈ my_134_0 from List.mem_of_getElem? (i := 42) rfl))
theorem cd_134_68 : mt_cd 134 68 = some (.dup) := mt_cd_of (q := (68, .dup, 1)) mq_134 ci_134 (List.mem_append_left _ (show _ ∈ my_134_0 from List.mem_of_getElem? (i := 43) rfl))
theorem cd_134_69 : mt_cd 134 69 = some (.bipush 6) := mt_cd_of (q := (69, .bipush 6, 2)) mq_134 ci_134 (List.mem_append_left _ (show _ ∈ my_134_0 from List.mem_of_getElem? (i := 44) rfl))
theorem cd_134_71 : mt_cd 134 71 = some (.ldc 37) := mt_cd_of (q := (71, .ldc 37, 2)) mq_134 ci_134 (List.mem_append_left _ (show _ ∈ my_134_0 from List.mem_of_getElem? (i := 45) rfl))
theorem cd_134_73 : mt_cd 134 73 = some (.aastore) := mt_cd_of (q := (73, .aastore, 1)) mq_134 ci_134 (List.mem_append_left _ (show _ ∈ my_134_0 from List.mem_of_getElem? (i := 46) rfl))
theorem cd_134_74 : mt_cd 134 74 = some (.dup) := mt_cd_of (q := (74, .dup, 1)) mq_134 ci_134 (List.mem_append_left _ (show _ ∈ my_134_0 from List.mem_of_getElem? (i := 47) rfl))
theorem cd_134_75 : mt_cd 134 75 = some (.bipush 7) := mt_cd_of (q := (75, .bipush 7, 2)) mq_134 ci_134 (List.mem_append_left _ (show _ ∈ my_134_0 from List.mem_of_getElem? (i := 48) rfl))
theorem cd_134_77 : mt_cd 134 77 = some (.ldc 39) := mt_cd_of (q := (77, .ldc 39, 2)) mq_134 ci_134 (List.mem_append_left _ (show _ ∈ my_134_0 from List.mem_of_getElem? (i := 49) rfl))
theorem cd_134_79 : mt_cd 134 79 = some (.aastore) := mt_cd_of (q := (79, .aastore, 1)) mq_134 ci_134 (List.mem_append_left _ (show _ ∈ my_134_0 from List.mem_of_getElem? (i := 50) rfl))
theorem cd_134_80 : mt_cd 134 80 = some (.dup) := mt_cd_of (q := (80, .dup, 1)) mq_134 ci_134 (List.mem_append_left _ (show _ ∈ my_134_0 from List.mem_of_getElem? (i := 51) rfl))
theorem cd_134_81 : mt_cd 134 81 = some (.bipush 8) := mt_cd_of (q := (81, .bipush 8, 2)) mq_134 ci_134 (List.mem_append_left _ (show _ ∈ my_134_0 from List.mem_of_getElem? (i := 52) rfl))
theorem cd_134_83 : mt_cd 134 83 = some (.ldc 41) := mt_cd_of (q := (83, .ldc 41, 2)) mq_134 ci_134 (List.mem_append_left _ (show _ ∈ my_134_0 from List.mem_of_getElem? (i := 53) rfl))
theorem cd_134_85 : mt_cd 134 85 = some (.aastore) := mt_cd_of (q := (85, .aastore, 1)) mq_134 ci_134 (List.mem_append_left _ (show _ ∈ my_134_0 from List.mem_of_getElem? (i := 54) rfl))
theorem cd_134_86 : mt_cd 134 86 = some (.dup) := mt_cd_of (q := (86, .dup, 1)) mq_134 ci_134 (List.mem_append_left _ (show _ ∈ my_134_0 from List.mem_of_getElem? (i := 55) rfl))
theorem cd_134_87 : mt_cd 134 87 = some (.bipush 9) := mt_cd_of (q := (87, .bipush 9, 2)) mq_134 ci_134 (List.mem_append_left _ (show _ ∈ my_134_0 from List.mem_of_getElem? (i := 56) rfl))
theorem cd_134_89 : mt_cd 134 89 = some (.ldc 43) := mt_cd_of (q := (89, .ldc 43, 2)) mq_134 ci_134 (List.mem_append_left _ (show _ ∈ my_134_0 from List.mem_of_getElem? (i := 57) rfl))
theorem cd_134_91 : mt_cd 134 91 = some (.aastore) := mt_cd_of (q := (91, .aastore, 1)) mq_134 ci_134 (List.mem_append_left _ (show _ ∈ my_134_0 from List.mem_of_getElem? (i := 58) rfl))
theorem cd_134_92 : mt_cd 134 92 = some (.dup) := mt_cd_of (q := (92, .dup, 1)) mq_134 ci_134 (List.mem_append_left _ (show _ ∈ my_134_0 from List.mem_of_getElem? (i := 59) rfl))
theorem cd_134_93 : mt_cd 134 93 = some (.bipush 10) := mt_cd_of (q := (93, .bipush 10, 2)) mq_134 ci_134 (List.mem_append_right _ (List.mem_append_left _ (show _ ∈ my_134_1 from List.mem_of_getElem? (i := 0) rfl)))
theorem cd_134_95 : mt_cd 134 95 = some (.ldc 45) := mt_cd_of (q := (95, .ldc 45, 2)) mq_134 ci_134 (List.mem_append_right _ (List.mem_append_left _ (show _ ∈ my_134_1 from List.mem_of_getElem? (i := 1) rfl)))
theorem cd_134_97 : mt_cd 134 97 = some (.aastore) := mt_cd_of (q := (97, .aastore, 1)) mq_134 ci_134 (List.mem_append_right _ (List.mem_append_left _ (show _ ∈ my_134_1 from List.mem_of_getElem? (i := 2) rfl)))
theorem cd_134_98 : mt_cd 134 98 = some (.dup) := mt_cd_of (q := (98, .dup, 1)) mq_134 ci_134 (List.mem_append_right _ (List.mem_append_left _ (show _ ∈ my_134_1 from List.mem_of_getElem? (i := 3) rfl)))
theorem cd_134_99 : mt_cd 134 99 = some (.bipush 11) := mt_cd_of (q := (99, .bipush 11, 2)) mq_134 ci_134 (List.mem_append_right _ (List.mem_append_left _ (show _ ∈ my_134_1 from List.mem_of_getElem? (i := 4) rfl)))
theorem cd_134_101 : mt_cd 134 101 = some (.ldc 47) := mt_cd_of (q := (101, .ldc 47, 2)) mq_134 ci_134 (List.mem_append_right _ (List.mem_append_left _ (show _ ∈ my_134_1 from List.mem_of_getElem? (i := 5) rfl)))
theorem cd_134_103 : mt_cd 134 103 = some (.aastore) := mt_cd_of (q := (103, .aastore, 1)) mq_134 ci_134 (List.mem_append_right _ (List.mem_append_left _ (show _ ∈ my_134_1 from List.mem_of_getElem? (i := 6) rfl)))
theorem cd_134_104 : mt_cd 134 104 = some (.dup) := mt_cd_of (q := (104, .dup, 1)) mq_134 ci_134 (List.mem_append_right _ (List.mem_append_left _ (show _ ∈ my_134_1 from List.mem_of_getElem? (i := 7) rfl)))
theorem cd_134_105 : mt_cd 134 105 = some (.bipush 12) := mt_cd_of (q := (105, .bipush 12, 2)) mq_134 ci_134 (List.mem_append_right _ (List.mem_append_left _ (show _ ∈ my_134_1 from List.mem_of_getElem? (i := 8) rfl)))
theorem cd_134_107 : mt_cd 134 107 = some (.ldc 49) := mt_cd_of (q := (107, .ldc 49, 2)) mq_134 ci_134 (List.mem_append_right _ (List.mem_append_left _ (show _ ∈ my_134_1 from List.mem_of_getElem? (i := 9) rfl)))
theorem cd_134_109 : mt_cd 134 109 = some (.aastore) := mt_cd_of (q := (109, .aastore, 1)) mq_134 ci_134 (List.mem_append_right _ (List.mem_append_left _ (show _ ∈ my_134_1 from List.mem_of_getElem? (i := 10) rfl)))
theorem cd_134_110 : mt_cd 134 110 = some (.dup) := mt_cd_of (q := (110, .dup, 1)) mq_134 ci_134 (List.mem_append_right _ (List.mem_append_left _ (show _ ∈ my_134_1 from List.mem_of_getElem? (i := 11) rfl)))
theorem cd_134_111 : mt_cd 134 111 = some (.bipush 13) := mt_cd_of (q := (111, .bipush 13, 2)) mq_134 ci_134 (List.mem_append_right _ (List.mem_append_left _ (show _ ∈ my_134_1 from List.mem_of_getElem? (i := 12) rfl)))
theorem cd_134_113 : mt_cd 134 113 = some (.ldc 51) := mt_cd_of (q := (113, .ldc 51, 2)) mq_134 ci_134 (List.mem_append_right _ (List.mem_append_left _ (show _ ∈ my_134_1 from List.mem_of_getElem? (i := 13) rfl)))
theorem cd_134_115 : mt_cd 134 115 = some (.aastore) := mt_cd_of (q := (115, .aastore, 1)) mq_134 ci_134 (List.mem_append_right _ (List.mem_append_left _ (show _ ∈ my_134_1 from List.mem_of_getElem? (i := 14) rfl)))
theorem cd_134_116 : mt_cd 134 116 = some (.dup) := mt_cd_of (q := (116, .dup, 1)) mq_134 ci_134 (List.mem_append_right _ (List.mem_append_left _ (show _ ∈ my_134_1 from List.mem_of_getElem? (i := 15) rfl)))
theorem cd_134_117 : mt_cd 134 117 = some (.bipush 14) := mt_cd_of (q := (117, .bipush 14, 2)) mq_134 ci_134 (List.mem_append_right _ (List.mem_append_left _ (show _ ∈ my_134_1 from List.mem_of_getElem? (i := 16) rfl)))
theorem cd_134_119 : mt_cd 134 119 = some (.ldc 53) := mt_cd_of (q := (119, .ldc 53, 2)) mq_134 ci_134 (List.mem_append_right _ (List.mem_append_left _ (show _ ∈ my_134_1 from List.mem_of_getElem? (i := 17) rfl)))
theorem cd_134_121 : mt_cd 134 121 = some (.aastore) := mt_cd_of (q := (121, .aastore, 1)) mq_134 ci_134 (List.mem_append_right _ (List.mem_append_left _ (show _ ∈ my_134_1 from List.mem_of_getElem? (i := 18) rfl)))
theorem cd_134_122 : mt_cd 134 122 = some (.dup) := mt_cd_of (q := (122, .dup, 1)) mq_134 ci_134 (List.mem_append_right _ (List.mem_append_left _ (show _ ∈ my_134_1 from List.mem_of_getElem? (i := 19) rfl)))
theorem cd_134_123 : mt_cd 134 123 = some (.bipush 15) := mt_cd_of (q := (123, .bipush 15, 2)) mq_134 ci_134 (List.mem_append_right _ (List.mem_append_left _ (show _ ∈ my_134_1 from List.mem_of_getElem? (i := 20) rfl)))
theorem cd_134_125 : mt_cd 134 125 = some (.ldc 55) := mt_cd_of (q := (125, .ldc 55, 2)) mq_134 ci_134 (List.mem_append_right _ (List.mem_append_left _ (show _ ∈ my_134_1 from List.mem_of_getElem? (i := 21) rfl)))
theorem cd_134_127 : mt_cd 134 127 = some (.aastore) := mt_cd_of (q := (127, .aastore, 1)) mq_134 ci_134 (List.mem_append_right _ (List.mem_append_left _ (show _ ∈ my_134_1 from List.mem_of_getElem? (i := 22) rfl)))
theorem cd_134_128 : mt_cd 134 128 = some (.dup) := mt_cd_of (q := (128, .dup, 1)) mq_134 ci_134 (List.mem_append_right _ (List.mem_append_left _ (show _ ∈ my_134_1 from List.mem_of_getElem? (i := 23) rfl)))
theorem cd_134_129 : mt_cd 134 129 = some (.bipush 16) := mt_cd_of (q := (129, .bipush 16, 2)) mq_134 ci_134 (List.mem_append_right _ (List.mem_append_left _ (show _ ∈ my_134_1 from List.mem_of_getElem? (i := 24) rfl)))
theorem cd_134_131 : mt_cd 134 131 = some (.ldc 57) := mt_cd_of (q := (131, .ldc 57, 2)) mq_134 ci_134 (List.mem_append_right _ (List.mem_append_left _ (show _ ∈ my_134_1 from List.mem_of_getElem? (i := 25) rfl)))
theorem cd_134_133 : mt_cd 134 133 = some (.aastore) := mt_cd_of (q := (133, .aastore, 1)) mq_134 ci_134 (List.mem_append_right _ (List.mem_append_left _ (show _ ∈ my_134_1 from List.mem_of_getElem? (i := 26) rfl)))
theorem cd_134_134 : mt_cd 134 134 = some (.dup) := mt_cd_of (q := (134, .dup, 1)) mq_134 ci_134 (List.mem_append_right _ (List.mem_append_left _ (show _ ∈ my_134_1 from List.mem_of_getElem? (i := 27) rfl)))
theorem cd_134_135 : mt_cd 134 135 = some (.bipush 17) := mt_cd_of (q := (135, .bipush 17, 2)) mq_134 ci_134 (List.mem_append_right _ (List.mem_append_left _ (show _ ∈ my_134_1 from List.mem_of_getElem? (i := 28) rfl)))
theorem cd_134_137 : mt_cd 134 137 = some (.ldc 59) := mt_cd_of (q := (137, .ldc 59, 2)) mq_134 ci_134 (List.mem_append_right _ (List.mem_append_left _ (show _ ∈ my_134_1 from List.mem_of_getElem? (i := 29) rfl)))
theorem cd_134_139 : mt_cd 134 139 = some (.aastore) := mt_cd_of (q := (139, .aastore, 1)) mq_134 ci_134 (List.mem_append_right _ (List.mem_append_left _ (show _ ∈ my_134_1 from List.mem_of_getElem? (i := 30) rfl)))
theorem cd_134_140 : mt_cd 134 140 = some (.dup) := mt_cd_of (q := (140, .dup, 1)) mq_134 ci_134 (List.mem_append_right _ (List.mem_append_left _ (show _ ∈ my_134_1 from List.mem_of_getElem? (i := 31) rfl)))
theorem cd_134_141 : mt_cd 134 141 = some (.bipush 18) := mt_cd_of (q := (141, .bipush 18, 2)) mq_134 ci_134 (List.mem_append_right _ (List.mem_append_left _ (show _ ∈ my_134_1 from List.mem_of_getElem? (i := 32) rfl)))
theorem cd_134_143 : mt_cd 134 143 = some (.ldc 61) := mt_cd_of (q := (143, .ldc 61, 2)) mq_134 ci_134 (List.mem_append_right _ (List.mem_append_left _ (show _ ∈ my_134_1 from List.mem_of_getElem? (i := 33) rfl)))
theorem cd_134_145 : mt_cd 134 145 = some (.aastore) := mt_cd_of (q := (145, .aastore, 1)) mq_134 ci_134 (List.mem_append_right _ (List.mem_append_left _ (show _ ∈ my_134_1 from List.mem_of_getElem? (i := 34) rfl)))
theorem cd_134_146 : mt_cd 134 146 = some (.dup) := mt_cd_of (q := (146, .dup, 1)) mq_134 ci_134 (List.mem_append_right _ (List.mem_append_left _ (show _ ∈ my_134_1 from List.mem_of_getElem? (i := 35) rfl)))
theorem cd_134_147 : mt_cd 134 147 = some (.bipush 19) := mt_cd_of (q := (147, .bipush 19, 2)) mq_134 ci_134 (List.mem_append_right _ (List.mem_append_left _ (show _ ∈ my_134_1 from List.mem_of_getElem? (i := 36) rfl)))
theorem cd_134_149 : mt_cd 134 149 = some (.ldc 63) := mt_cd_of (q := (149, .ldc 63, 2)) mq_134 ci_134 (List.mem_append_right _ (List.mem_append_left _ (show _ ∈ my_134_1 from List.mem_of_getElem? (i := 37) rfl)))
theorem cd_134_151 : mt_cd 134 151 = some (.aastore) := mt_cd_of (q := (151, .aastore, 1)) mq_134 ci_134 (List.mem_append_right _ (List.mem_append_left _ (show _ ∈ my_134_1 from List.mem_of_getElem? (i := 38) rfl)))
theorem cd_134_152 : mt_cd 134 152 = some (.dup) := mt_cd_of (q := (152, .dup, 1)) mq_134 ci_134 (List.mem_append_right _ (List.mem_append_left _ (show _ ∈ my_134_1 from List.mem_of_getElem? (i := 39) rfl)))
theorem cd_134_153 : mt_cd 134 153 = some (.bipush 20) := mt_cd_of (q := (153, .bipush 20, 2)) mq_134 ci_134 (List.mem_append_right _ (List.mem_append_left _ (show _ ∈ my_134_1 from List.mem_of_getElem? (i := 40) rfl)))
theorem cd_134_155 : mt_cd 134 155 = some (.ldc 65) := mt_cd_of (q := (155, .ldc 65, 2)) mq_134 ci_134 (List.mem_append_right _ (List.mem_append_left _ (show _ ∈ my_134_1 from List.mem_of_getElem? (i := 41) rfl)))
theorem cd_134_157 : mt_cd 134 157 = some (.aastore) := mt_cd_of (q := (157, .aastore, 1)) mq_134 ci_134 (List.mem_append_right _ (List.mem_append_left _ (show _ ∈ my_134_1 from List.mem_of_getElem? (i := 42) rfl)))
theorem cd_134_158 : mt_cd 134 158 = some (.dup) := mt_cd_of (q := (158, .dup, 1)) mq_134 ci_134 (List.mem_append_right _ (List.mem_append_left _ (show _ ∈ my_134_1 from List.mem_of_getElem? (i := 43) rfl)))
theorem cd_134_159 : mt_cd 134 159 = some (.bipush 21) := mt_cd_of (q := (159, .bipush 21, 2)) mq_134 ci_134 (List.mem_append_right _ (List.mem_append_left _ (show _ ∈ my_134_1 from List.mem_of_getElem? (i := 44) rfl)))
theorem cd_134_161 : mt_cd 134 161 = some (.ldc 67) := mt_cd_of (q := (161, .ldc 67, 2)) mq_134 ci_134 (List.mem_append_right _ (List.mem_append_left _ (show _ ∈ my_134_1 from List.mem_of_getElem? (i := 45) rfl)))
theorem cd_134_163 : mt_cd 134 163 = some (.aastore) := mt_cd_of (q := (163, .aastore, 1)) mq_134 ci_134 (List.mem_append_right _ (List.mem_append_left _ (show _ ∈ my_134_1 from List.mem_of_getElem? (i := 46) rfl)))
theorem cd_134_164 : mt_cd 134 164 = some (.dup) := mt_cd_of (q := (164, .dup, 1)) mq_134 ci_134 (List.mem_append_right _ (List.mem_append_left _ (show _ ∈ my_134_1 from List.mem_of_getElem? (i := 47) rfl)))
theorem cd_134_165 : mt_cd 134 165 = some (.bipush 22) := mt_cd_of (q := (165, .bipush 22, 2)) mq_134 ci_134 (List.mem_append_right _ (List.mem_append_left _ (show _ ∈ my_134_1 from List.mem_of_getElem? (i := 48) rfl)))
theorem cd_134_167 : mt_cd 134 167 = some (.ldc 69) := mt_cd_of (q := (167, .ldc 69, 2)) mq_134 ci_134 (List.mem_append_right _ (List.mem_append_left _ (show _ ∈ my_134_1 from List.mem_of_getElem? (i := 49) rfl)))
theorem cd_134_169 : mt_cd 134 169 = some (.aastore) := mt_cd_of (q := (169, .aastore, 1)) mq_134 ci_134 (List.mem_append_right _ (List.mem_append_left _ (show _ ∈ my_134_1 from List.mem_of_getElem? (i := 50) rfl)))
theorem cd_134_170 : mt_cd 134 170 = some (.dup) := mt_cd_of (q := (170, .dup, 1)) mq_134 ci_134 (List.mem_append_right _ (List.mem_append_left _ (show _ ∈ my_134_1 from List.mem_of_getElem? (i := 51) rfl)))
theorem cd_134_171 : mt_cd 134 171 = some (.bipush 23) := mt_cd_of (q := (171, .bipush 23, 2)) mq_134 ci_134 (List.mem_append_right _ (List.mem_append_left _ (show _ ∈ my_134_1 from List.mem_of_getElem? (i := 52) rfl)))
theorem cd_134_173 : mt_cd 134 173 = some (.ldc 71) := mt_cd_of (q := (173, .ldc 71, 2)) mq_134 ci_134 (List.mem_append_right _ (List.mem_append_left _ (show _ ∈ my_134_1 from List.mem_of_getElem? (i := 53) rfl)))
theorem cd_134_175 : mt_cd 134 175 = some (.aastore) := mt_cd_of (q := (175, .aastore, 1)) mq_134 ci_134 (List.mem_append_right _ (List.mem_append_left _ (show _ ∈ my_134_1 from List.mem_of_getElem? (i := 54) rfl)))
theorem cd_134_176 : mt_cd 134 176 = some (.putfield 73) := mt_cd_of (q := (176, .putfield 73, 3)) mq_134 ci_134 (List.mem_append_right _ (List.mem_append_left _ (show _ ∈ my_134_1 from List.mem_of_getElem? (i := 55) rfl)))
theorem cd_134_179 : mt_cd 134 179 = some (.aload_n 0) := mt_cd_of (q := (179, .aload_n 0, 1)) mq_134 ci_134 (List.mem_append_right _ (List.mem_append_left _ (show _ ∈ my_134_1 from List.mem_of_getElem? (i := 56) rfl)))
theorem cd_134_180 : mt_cd 134 180 = some (.sipush 800) := mt_cd_of (q := (180, .sipush 800, 3)) mq_134 ci_134 (List.mem_append_right _ (List.mem_append_left _ (show _ ∈ my_134_1 from List.mem_of_getElem? (i := 57) rfl)))
theorem cd_134_183 : mt_cd 134 183 = some (.newarray .int) := mt_cd_of (q := (183, .newarray .int, 2)) mq_134 ci_134 (List.mem_append_right _ (List.mem_append_left _ (show _ ∈ my_134_1 from List.mem_of_getElem? (i := 58) rfl)))
theorem cd_134_185 : mt_cd 134 185 = some (.putfield 77) := mt_cd_of (q := (185, .putfield 77, 3)) mq_134 ci_134 (List.mem_append_right _ (List.mem_append_left _ (show _ ∈ my_134_1 from List.mem_of_getElem? (i := 59) rfl)))
theorem cd_134_188 : mt_cd 134 188 = some (.aload_n 0) := mt_cd_of (q := (188, .aload_n 0, 1)) mq_134 ci_134 (List.mem_append_right _ (List.mem_append_right _ (List.mem_append_left _ (show _ ∈ my_134_2 from List.mem_of_getElem? (i := 0) rfl))))
theorem cd_134_189 : mt_cd 134 189 = some (.sipush 800) := mt_cd_of (q := (189, .sipush 800, 3)) mq_134 ci_134 (List.mem_append_right _ (List.mem_append_right _ (List.mem_append_left _ (show _ ∈ my_134_2 from List.mem_of_getElem? (i := 1) rfl))))
theorem cd_134_192 : mt_cd 134 192 = some (.newarray .int) := mt_cd_of (q := (192, .newarray .int, 2)) mq_134 ci_134 (List.mem_append_right _ (List.mem_append_right _ (List.mem_append_left _ (show _ ∈ my_134_2 from List.mem_of_getElem? (i := 2) rfl))))
theorem cd_134_194 : mt_cd 134 194 = some (.putfield 80) := mt_cd_of (q := (194, .putfield 80, 3)) mq_134 ci_134 (List.mem_append_right _ (List.mem_append_right _ (List.mem_append_left _ (show _ ∈ my_134_2 from List.mem_of_getElem? (i := 3) rfl))))
theorem cd_134_197 : mt_cd 134 197 = some (.aload_n 0) := mt_cd_of (q := (197, .aload_n 0, 1)) mq_134 ci_134 (List.mem_append_right _ (List.mem_append_right _ (List.mem_append_left _ (show _ ∈ my_134_2 from List.mem_of_getElem? (i := 4) rfl))))
theorem cd_134_198 : mt_cd 134 198 = some (.sipush 800) := mt_cd_of (q := (198, .sipush 800, 3)) mq_134 ci_134 (List.mem_append_right _ (List.mem_append_right _ (List.mem_append_left _ (show _ ∈ my_134_2 from List.mem_of_getElem? (i := 5) rfl))))
theorem cd_134_201 : mt_cd 134 201 = some (.newarray .int) := mt_cd_of (q := (201, .newarray .int, 2)) mq_134 ci_134 (List.mem_append_right _ (List.mem_append_right _ (List.mem_append_left _ (show _ ∈ my_134_2 from List.mem_of_getElem? (i := 6) rfl))))
theorem cd_134_203 : mt_cd 134 203 = some (.putfield 83) := mt_cd_of (q := (203, .putfield 83, 3)) mq_134 ci_134 (List.mem_append_right _ (List.mem_append_right _ (List.mem_append_left _ (show _ ∈ my_134_2 from List.mem_of_getElem? (i := 7) rfl))))
theorem cd_134_206 : mt_cd 134 206 = some (.aload_n 0) := mt_cd_of (q := (206, .aload_n 0, 1)) mq_134 ci_134 (List.mem_append_right _ (List.mem_append_right _ (List.mem_append_left _ (show _ ∈ my_134_2 from List.mem_of_getElem? (i := 8) rfl))))
theorem cd_134_207 : mt_cd 134 207 = some (.sipush 800) := mt_cd_of (q := (207, .sipush 800, 3)) mq_134 ci_134 (List.mem_append_right _ (List.mem_append_right _ (List.mem_append_left _ (show _ ∈ my_134_2 from List.mem_of_getElem? (i := 9) rfl))))
theorem cd_134_210 : mt_cd 134 210 = some (.newarray .int) := mt_cd_of (q := (210, .newarray .int, 2)) mq_134 ci_134 (List.mem_append_right _ (List.mem_append_right _ (List.mem_append_left _ (show _ ∈ my_134_2 from List.mem_of_getElem? (i := 10) rfl))))
theorem cd_134_212 : mt_cd 134 212 = some (.putfield 86) := mt_cd_of (q := (212, .putfield 86, 3)) mq_134 ci_134 (List.mem_append_right _ (List.mem_append_right _ (List.mem_append_left _ (show _ ∈ my_134_2 from List.mem_of_getElem? (i := 11) rfl))))
theorem cd_134_215 : mt_cd 134 215 = some (.aload_n 0) := mt_cd_of (q := (215, .aload_n 0, 1)) mq_134 ci_134 (List.mem_append_right _ (List.mem_append_right _ (List.mem_append_left _ (show _ ∈ my_134_2 from List.mem_of_getElem? (i := 12) rfl))))
theorem cd_134_216 : mt_cd 134 216 = some (.sipush 800) := mt_cd_of (q := (216, .sipush 800, 3)) mq_134 ci_134 (List.mem_append_right _ (List.mem_append_right _ (List.mem_append_left _ (show _ ∈ my_134_2 from List.mem_of_getElem? (i := 13) rfl))))
theorem cd_134_219 : mt_cd 134 219 = some (.newarray .int) := mt_cd_of (q := (219, .newarray .int, 2)) mq_134 ci_134 (List.mem_append_right _ (List.mem_append_right _ (List.mem_append_left _ (show _ ∈ my_134_2 from List.mem_of_getElem? (i := 14) rfl))))
theorem cd_134_221 : mt_cd 134 221 = some (.putfield 89) := mt_cd_of (q := (221, .putfield 89, 3)) mq_134 ci_134 (List.mem_append_right _ (List.mem_append_right _ (List.mem_append_left _ (show _ ∈ my_134_2 from List.mem_of_getElem? (i := 15) rfl))))
theorem cd_134_224 : mt_cd 134 224 = some (.aload_n 0) := mt_cd_of (q := (224, .aload_n 0, 1)) mq_134 ci_134 (List.mem_append_right _ (List.mem_append_right _ (List.mem_append_left _ (show _ ∈ my_134_2 from List.mem_of_getElem? (i := 16) rfl))))
theorem cd_134_225 : mt_cd 134 225 = some (.sipush 800) := mt_cd_of (q := (225, .sipush 800, 3)) mq_134 ci_134 (List.mem_append_right _ (List.mem_append_right _ (List.mem_append_left _ (show _ ∈ my_134_2 from List.mem_of_getElem? (i := 17) rfl))))
theorem cd_134_228 : mt_cd 134 228 = some (.newarray .int) := mt_cd_of (q := (228, .newarray .int, 2)) mq_134 ci_134 (List.mem_append_right _ (List.mem_append_right _ (List.mem_append_left _ (show _ ∈ my_134_2 from List.mem_of_getElem? (i := 18) rfl))))
theorem cd_134_230 : mt_cd 134 230 = some (.putfield 92) := mt_cd_of (q := (230, .putfield 92, 3)) mq_134 ci_134 (List.mem_append_right _ (List.mem_append_right _ (List.mem_append_left _ (show _ ∈ my_134_2 from List.mem_of_getElem? (i := 19) rfl))))
theorem cd_134_233 : mt_cd 134 233 = some (.aload_n 0) := mt_cd_of (q := (233, .aload_n 0, 1)) mq_134 ci_134 (List.mem_append_right _ (List.mem_append_right _ (List.mem_append_left _ (show _ ∈ my_134_2 from List.mem_of_getElem? (i := 20) rfl))))
theorem cd_134_234 : mt_cd 134 234 = some (.sipush 800) := mt_cd_of (q := (234, .sipush 800, 3)) mq_134 ci_134 (List.mem_append_right _ (List.mem_append_right _ (List.mem_append_left _ (show _ ∈ my_134_2 from List.mem_of_getElem? (i := 21) rfl))))
theorem cd_134_237 : mt_cd 134 237 = some (.newarray .int) := mt_cd_of (q := (237, .newarray .int, 2)) mq_134 ci_134 (List.mem_append_right _ (List.mem_append_right _ (List.mem_append_left _ (show _ ∈ my_134_2 from List.mem_of_getElem? (i := 22) rfl))))
theorem cd_134_239 : mt_cd 134 239 = some (.putfield 95) := mt_cd_of (q := (239, .putfield 95, 3)) mq_134 ci_134 (List.mem_append_right _ (List.mem_append_right _ (List.mem_append_left _ (show _ ∈ my_134_2 from List.mem_of_getElem? (i := 23) rfl))))
theorem cd_134_242 : mt_cd 134 242 = some (.aload_n 0) := mt_cd_of (q := (242, .aload_n 0, 1)) mq_134 ci_134 (List.mem_append_right _ (List.mem_append_right _ (List.mem_append_left _ (show _ ∈ my_134_2 from List.mem_of_getElem? (i := 24) rfl))))
theorem cd_134_243 : mt_cd 134 243 = some (.sipush 800) := mt_cd_of (q := (243, .sipush 800, 3)) mq_134 ci_134 (List.mem_append_right _ (List.mem_append_right _ (List.mem_append_left _ (show _ ∈ my_134_2 from List.mem_of_getElem? (i := 25) rfl))))
theorem cd_134_246 : mt_cd 134 246 = some (.newarray .int) := mt_cd_of (q := (246, .newarray .int, 2)) mq_134 ci_134 (List.mem_append_right _ (List.mem_append_right _ (List.mem_append_left _ (show _ ∈ my_134_2 from List.mem_of_getElem? (i := 26) rfl))))
theorem cd_134_248 : mt_cd 134 248 = some (.putfield 98) := mt_cd_of (q := (248, .putfield 98, 3)) mq_134 ci_134 (List.mem_append_right _ (List.mem_append_right _ (List.mem_append_left _ (show _ ∈ my_134_2 from List.mem_of_getElem? (i := 27) rfl))))
theorem cd_134_251 : mt_cd 134 251 = some (.aload_n 0) := mt_cd_of (q := (251, .aload_n 0, 1)) mq_134 ci_134 (List.mem_append_right _ (List.mem_append_right _ (List.mem_append_left _ (show _ ∈ my_134_2 from List.mem_of_getElem? (i := 28) rfl))))
theorem cd_134_252 : mt_cd 134 252 = some (.sipush 800) := mt_cd_of (q := (252, .sipush 800, 3)) mq_134 ci_134 (List.mem_append_right _ (List.mem_append_right _ (List.mem_append_left _ (show _ ∈ my_134_2 from List.mem_of_getElem? (i := 29) rfl))))
theorem cd_134_255 : mt_cd 134 255 = some (.newarray .long) := mt_cd_of (q := (255, .newarray .long, 2)) mq_134 ci_134 (List.mem_append_right _ (List.mem_append_right _ (List.mem_append_left _ (show _ ∈ my_134_2 from List.mem_of_getElem? (i := 30) rfl))))
theorem cd_134_257 : mt_cd 134 257 = some (.putfield 101) := mt_cd_of (q := (257, .putfield 101, 3)) mq_134 ci_134 (List.mem_append_right _ (List.mem_append_right _ (List.mem_append_left _ (show _ ∈ my_134_2 from List.mem_of_getElem? (i := 31) rfl))))
theorem cd_134_260 : mt_cd 134 260 = some (.aload_n 0) := mt_cd_of (q := (260, .aload_n 0, 1)) mq_134 ci_134 (List.mem_append_right _ (List.mem_append_right _ (List.mem_append_left _ (show _ ∈ my_134_2 from List.mem_of_getElem? (i := 32) rfl))))
theorem cd_134_261 : mt_cd 134 261 = some (.sipush 4200) := mt_cd_of (q := (261, .sipush 4200, 3)) mq_134 ci_134 (List.mem_append_right _ (List.mem_append_right _ (List.mem_append_left _ (show _ ∈ my_134_2 from List.mem_of_getElem? (i := 33) rfl))))
theorem cd_134_264 : mt_cd 134 264 = some (.newarray .long) := mt_cd_of (q := (264, .newarray .long, 2)) mq_134 ci_134 (List.mem_append_right _ (List.mem_append_right _ (List.mem_append_left _ (show _ ∈ my_134_2 from List.mem_of_getElem? (i := 34) rfl))))
theorem cd_134_266 : mt_cd 134 266 = some (.putfield 105) := mt_cd_of (q := (266, .putfield 105, 3)) mq_134 ci_134 (List.mem_append_right _ (List.mem_append_right _ (List.mem_append_left _ (show _ ∈ my_134_2 from List.mem_of_getElem? (i := 35) rfl))))
theorem cd_134_269 : mt_cd 134 269 = some (.aload_n 0) := mt_cd_of (q := (269, .aload_n 0, 1)) mq_134 ci_134 (List.mem_append_right _ (List.mem_append_right _ (List.mem_append_left _ (show _ ∈ my_134_2 from List.mem_of_getElem? (i := 36) rfl))))
theorem cd_134_270 : mt_cd 134 270 = some (.sipush 4200) := mt_cd_of (q := (270, .sipush 4200, 3)) mq_134 ci_134 (List.mem_append_right _ (List.mem_append_right _ (List.mem_append_left _ (show _ ∈ my_134_2 from List.mem_of_getElem? (i := 37) rfl))))
theorem cd_134_273 : mt_cd 134 273 = some (.newarray .long) := mt_cd_of (q := (273, .newarray .long, 2)) mq_134 ci_134 (List.mem_append_right _ (List.mem_append_right _ (List.mem_append_left _ (show _ ∈ my_134_2 from List.mem_of_getElem? (i := 38) rfl))))
theorem cd_134_275 : mt_cd 134 275 = some (.putfield 108) := mt_cd_of (q := (275, .putfield 108, 3)) mq_134 ci_134 (List.mem_append_right _ (List.mem_append_right _ (List.mem_append_left _ (show _ ∈ my_134_2 from List.mem_of_getElem? (i := 39) rfl))))
theorem cd_134_278 : mt_cd 134 278 = some (.aload_n 0) := mt_cd_of (q := (278, .aload_n 0, 1)) mq_134 ci_134 (List.mem_append_right _ (List.mem_append_right _ (List.mem_append_left _ (show _ ∈ my_134_2 from List.mem_of_getElem? (i := 40) rfl))))
theorem cd_134_279 : mt_cd 134 279 = some (.bipush 8) := mt_cd_of (q := (279, .bipush 8, 2)) mq_134 ci_134 (List.mem_append_right _ (List.mem_append_right _ (List.mem_append_left _ (show _ ∈ my_134_2 from List.mem_of_getElem? (i := 41) rfl))))
theorem cd_134_281 : mt_cd 134 281 = some (.newarray .int) := mt_cd_of (q := (281, .newarray .int, 2)) mq_134 ci_134 (List.mem_append_right _ (List.mem_append_right _ (List.mem_append_left _ (show _ ∈ my_134_2 from List.mem_of_getElem? (i := 42) rfl))))
theorem cd_134_283 : mt_cd 134 283 = some (.putfield 111) := mt_cd_of (q := (283, .putfield 111, 3)) mq_134 ci_134 (List.mem_append_right _ (List.mem_append_right _ (List.mem_append_left _ (show _ ∈ my_134_2 from List.mem_of_getElem? (i := 43) rfl))))
theorem cd_134_286 : mt_cd 134 286 = some (.aload_n 0) := mt_cd_of (q := (286, .aload_n 0, 1)) mq_134 ci_134 (List.mem_append_right _ (List.mem_append_right _ (List.mem_append_left _ (show _ ∈ my_134_2 from List.mem_of_getElem? (i := 44) rfl))))
theorem cd_134_287 : mt_cd 134 287 = some (.bipush 8) := mt_cd_of (q := (287, .bipush 8, 2)) mq_134 ci_134 (List.mem_append_right _ (List.mem_append_right _ (List.mem_append_left _ (show _ ∈ my_134_2 from List.mem_of_getElem? (i := 45) rfl))))
theorem cd_134_289 : mt_cd 134 289 = some (.newarray .int) := mt_cd_of (q := (289, .newarray .int, 2)) mq_134 ci_134 (List.mem_append_right _ (List.mem_append_right _ (List.mem_append_left _ (show _ ∈ my_134_2 from List.mem_of_getElem? (i := 46) rfl))))
theorem cd_134_291 : mt_cd 134 291 = some (.putfield 114) := mt_cd_of (q := (291, .putfield 114, 3)) mq_134 ci_134 (List.mem_append_right _ (List.mem_append_right _ (List.mem_append_left _ (show _ ∈ my_134_2 from List.mem_of_getElem? (i := 47) rfl))))
theorem cd_134_294 : mt_cd 134 294 = some (.aload_n 0) := mt_cd_of (q := (294, .aload_n 0, 1)) mq_134 ci_134 (List.mem_append_right _ (List.mem_append_right _ (List.mem_append_left _ (show _ ∈ my_134_2 from List.mem_of_getElem? (i := 48) rfl))))
theorem cd_134_295 : mt_cd 134 295 = some (.iconst 4) := mt_cd_of (q := (295, .iconst 4, 1)) mq_134 ci_134 (List.mem_append_right _ (List.mem_append_right _ (List.mem_append_left _ (show _ ∈ my_134_2 from List.mem_of_getElem? (i := 49) rfl))))
theorem cd_134_296 : mt_cd 134 296 = some (.newarray .int) := mt_cd_of (q := (296, .newarray .int, 2)) mq_134 ci_134 (List.mem_append_right _ (List.mem_append_right _ (List.mem_append_left _ (show _ ∈ my_134_2 from List.mem_of_getElem? (i := 50) rfl))))
theorem cd_134_298 : mt_cd 134 298 = some (.putfield 117) := mt_cd_of (q := (298, .putfield 117, 3)) mq_134 ci_134 (List.mem_append_right _ (List.mem_append_right _ (List.mem_append_left _ (show _ ∈ my_134_2 from List.mem_of_getElem? (i := 51) rfl))))
theorem cd_134_301 : mt_cd 134 301 = some (.aload_n 0) := mt_cd_of (q := (301, .aload_n 0, 1)) mq_134 ci_134 (List.mem_append_right _ (List.mem_append_right _ (List.mem_append_left _ (show _ ∈ my_134_2 from List.mem_of_getElem? (i := 52) rfl))))
theorem cd_134_302 : mt_cd 134 302 = some (.iconst 4) := mt_cd_of (q := (302, .iconst 4, 1)) mq_134 ci_134 (List.mem_append_right _ (List.mem_append_right _ (List.mem_append_left _ (show _ ∈ my_134_2 from List.mem_of_getElem? (i := 53) rfl))))
theorem cd_134_303 : mt_cd 134 303 = some (.newarray .int) := mt_cd_of (q := (303, .newarray .int, 2)) mq_134 ci_134 (List.mem_append_right _ (List.mem_append_right _ (List.mem_append_left _ (show _ ∈ my_134_2 from List.mem_of_getElem? (i := 54) rfl))))
theorem cd_134_305 : mt_cd 134 305 = some (.putfield 120) := mt_cd_of (q := (305, .putfield 120, 3)) mq_134 ci_134 (List.mem_append_right _ (List.mem_append_right _ (List.mem_append_left _ (show _ ∈ my_134_2 from List.mem_of_getElem? (i := 55) rfl))))
theorem cd_134_308 : mt_cd 134 308 = some (.aload_n 0) := mt_cd_of (q := (308, .aload_n 0, 1)) mq_134 ci_134 (List.mem_append_right _ (List.mem_append_right _ (List.mem_append_left _ (show _ ∈ my_134_2 from List.mem_of_getElem? (i := 56) rfl))))
theorem cd_134_309 : mt_cd 134 309 = some (.bipush 8) := mt_cd_of (q := (309, .bipush 8, 2)) mq_134 ci_134 (List.mem_append_right _ (List.mem_append_right _ (List.mem_append_left _ (show _ ∈ my_134_2 from List.mem_of_getElem? (i := 57) rfl))))
theorem cd_134_311 : mt_cd 134 311 = some (.newarray .int) := mt_cd_of (q := (311, .newarray .int, 2)) mq_134 ci_134 (List.mem_append_right _ (List.mem_append_right _ (List.mem_append_left _ (show _ ∈ my_134_2 from List.mem_of_getElem? (i := 58) rfl))))
theorem cd_134_313 : mt_cd 134 313 = some (.putfield 123) := mt_cd_of (q := (313, .putfield 123, 3)) mq_134 ci_134 (List.mem_append_right _ (List.mem_append_right _ (List.mem_append_left _ (show _ ∈ my_134_2 from List.mem_of_getElem? (i := 59) rfl))))
theorem cd_134_316 : mt_cd 134 316 = some (.aload_n 0) := mt_cd_of (q := (316, .aload_n 0, 1)) mq_134 ci_134 (List.mem_append_right _ (List.mem_append_right _ (List.mem_append_right _ (List.mem_append_left _ (show _ ∈ my_134_3 from List.mem_of_getElem? (i := 0) rfl)))))
theorem cd_134_317 : mt_cd 134 317 = some (.bipush 8) := mt_cd_of (q := (317, .bipush 8, 2)) mq_134 ci_134 (List.mem_append_right _ (List.mem_append_right _ (List.mem_append_right _ (List.mem_append_left _ (show _ ∈ my_134_3 from List.mem_of_getElem? (i := 1) rfl)))))
theorem cd_134_319 : mt_cd 134 319 = some (.newarray .int) := mt_cd_of (q := (319, .newarray .int, 2)) mq_134 ci_134 (List.mem_append_right _ (List.mem_append_right _ (List.mem_append_right _ (List.mem_append_left _ (show _ ∈ my_134_3 from List.mem_of_getElem? (i := 2) rfl)))))
theorem cd_134_321 : mt_cd 134 321 = some (.putfield 126) := mt_cd_of (q := (321, .putfield 126, 3)) mq_134 ci_134 (List.mem_append_right _ (List.mem_append_right _ (List.mem_append_right _ (List.mem_append_left _ (show _ ∈ my_134_3 from List.mem_of_getElem? (i := 3) rfl)))))
theorem cd_134_324 : mt_cd 134 324 = some (.aload_n 0) := mt_cd_of (q := (324, .aload_n 0, 1)) mq_134 ci_134 (List.mem_append_right _ (List.mem_append_right _ (List.mem_append_right _ (List.mem_append_left _ (show _ ∈ my_134_3 from List.mem_of_getElem? (i := 4) rfl)))))
theorem cd_134_325 : mt_cd 134 325 = some (.bipush 8) := mt_cd_of (q := (325, .bipush 8, 2)) mq_134 ci_134 (List.mem_append_right _ (List.mem_append_right _ (List.mem_append_right _ (List.mem_append_left _ (show _ ∈ my_134_3 from List.mem_of_getElem? (i := 5) rfl)))))
theorem cd_134_327 : mt_cd 134 327 = some (.newarray .int) := mt_cd_of (q := (327, .newarray .int, 2)) mq_134 ci_134 (List.mem_append_right _ (List.mem_append_right _ (List.mem_append_right _ (List.mem_append_left _ (show _ ∈ my_134_3 from List.mem_of_getElem? (i := 6) rfl)))))
theorem cd_134_329 : mt_cd 134 329 = some (.putfield 129) := mt_cd_of (q := (329, .putfield 129, 3)) mq_134 ci_134 (List.mem_append_right _ (List.mem_append_right _ (List.mem_append_right _ (List.mem_append_left _ (show _ ∈ my_134_3 from List.mem_of_getElem? (i := 7) rfl)))))
theorem cd_134_332 : mt_cd 134 332 = some (.aload_n 0) := mt_cd_of (q := (332, .aload_n 0, 1)) mq_134 ci_134 (List.mem_append_right _ (List.mem_append_right _ (List.mem_append_right _ (List.mem_append_left _ (show _ ∈ my_134_3 from List.mem_of_getElem? (i := 8) rfl)))))
theorem cd_134_333 : mt_cd 134 333 = some (.bipush 8) := mt_cd_of (q := (333, .bipush 8, 2)) mq_134 ci_134 (List.mem_append_right _ (List.mem_append_right _ (List.mem_append_right _ (List.mem_append_left _ (show _ ∈ my_134_3 from List.mem_of_getElem? (i := 9) rfl)))))
theorem cd_134_335 : mt_cd 134 335 = some (.newarray .int) := mt_cd_of (q := (335, .newarray .int, 2)) mq_134 ci_134 (List.mem_append_right _ (List.mem_append_right _ (List.mem_append_right _ (List.mem_append_left _ (show _ ∈ my_134_3 from List.mem_of_getElem? (i := 10) rfl)))))
theorem cd_134_337 : mt_cd 134 337 = some (.putfield 132) := mt_cd_of (q := (337, .putfield 132, 3)) mq_134 ci_134 (List.mem_append_right _ (List.mem_append_right _ (List.mem_append_right _ (List.mem_append_left _ (show _ ∈ my_134_3 from List.mem_of_getElem? (i := 11) rfl)))))
theorem cd_134_340 : mt_cd 134 340 = some (.aload_n 0) := mt_cd_of (q := (340, .aload_n 0, 1)) mq_134 ci_134 (List.mem_append_right _ (List.mem_append_right _ (List.mem_append_right _ (List.mem_append_left _ (show _ ∈ my_134_3 from List.mem_of_getElem? (i := 12) rfl)))))
theorem cd_134_341 : mt_cd 134 341 = some (.bipush 8) := mt_cd_of (q := (341, .bipush 8, 2)) mq_134 ci_134 (List.mem_append_right _ (List.mem_append_right _ (List.mem_append_right _ (List.mem_append_left _ (show _ ∈ my_134_3 from List.mem_of_getElem? (i := 13) rfl)))))
theorem cd_134_343 : mt_cd 134 343 = some (.newarray .int) := mt_cd_of (q := (343, .newarray .int, 2)) mq_134 ci_134 (List.mem_append_right _ (List.mem_append_right _ (List.mem_append_right _ (List.mem_append_left _ (show _ ∈ my_134_3 from List.mem_of_getElem? (i := 14) rfl)))))
theorem cd_134_345 : mt_cd 134 345 = some (.putfield 135) := mt_cd_of (q := (345, .putfield 135, 3)) mq_134 ci_134 (List.mem_append_right _ (List.mem_append_right _ (List.mem_append_right _ (List.mem_append_left _ (show _ ∈ my_134_3 from List.mem_of_getElem? (i := 15) rfl)))))
theorem cd_134_348 : mt_cd 134 348 = some (.aload_n 0) := mt_cd_of (q := (348, .aload_n 0, 1)) mq_134 ci_134 (List.mem_append_right _ (List.mem_append_right _ (List.mem_append_right _ (List.mem_append_left _ (show _ ∈ my_134_3 from List.mem_of_getElem? (i := 16) rfl)))))
theorem cd_134_349 : mt_cd 134 349 = some (.sipush 800) := mt_cd_of (q := (349, .sipush 800, 3)) mq_134 ci_134 (List.mem_append_right _ (List.mem_append_right _ (List.mem_append_right _ (List.mem_append_left _ (show _ ∈ my_134_3 from List.mem_of_getElem? (i := 17) rfl)))))
theorem cd_134_352 : mt_cd 134 352 = some (.newarray .int) := mt_cd_of (q := (352, .newarray .int, 2)) mq_134 ci_134 (List.mem_append_right _ (List.mem_append_right _ (List.mem_append_right _ (List.mem_append_left _ (show _ ∈ my_134_3 from List.mem_of_getElem? (i := 18) rfl)))))
theorem cd_134_354 : mt_cd 134 354 = some (.putfield 138) := mt_cd_of (q := (354, .putfield 138, 3)) mq_134 ci_134 (List.mem_append_right _ (List.mem_append_right _ (List.mem_append_right _ (List.mem_append_left _ (show _ ∈ my_134_3 from List.mem_of_getElem? (i := 19) rfl)))))
theorem cd_134_357 : mt_cd 134 357 = some (.aload_n 0) := mt_cd_of (q := (357, .aload_n 0, 1)) mq_134 ci_134 (List.mem_append_right _ (List.mem_append_right _ (List.mem_append_right _ (List.mem_append_left _ (show _ ∈ my_134_3 from List.mem_of_getElem? (i := 20) rfl)))))
theorem cd_134_358 : mt_cd 134 358 = some (.sipush 800) := mt_cd_of (q := (358, .sipush 800, 3)) mq_134 ci_134 (List.mem_append_right _ (List.mem_append_right _ (List.mem_append_right _ (List.mem_append_left _ (show _ ∈ my_134_3 from List.mem_of_getElem? (i := 21) rfl)))))
theorem cd_134_361 : mt_cd 134 361 = some (.newarray .int) := mt_cd_of (q := (361, .newarray .int, 2)) mq_134 ci_134 (List.mem_append_right _ (List.mem_append_right _ (List.mem_append_right _ (List.mem_append_left _ (show _ ∈ my_134_3 from List.mem_of_getElem? (i := 22) rfl)))))
theorem cd_134_363 : mt_cd 134 363 = some (.putfield 141) := mt_cd_of (q := (363, .putfield 141, 3)) mq_134 ci_134 (List.mem_append_right _ (List.mem_append_right _ (List.mem_append_right _ (List.mem_append_left _ (show _ ∈ my_134_3 from List.mem_of_getElem? (i := 23) rfl)))))
theorem cd_134_366 : mt_cd 134 366 = some (.aload_n 0) := mt_cd_of (q := (366, .aload_n 0, 1)) mq_134 ci_134 (List.mem_append_right _ (List.mem_append_right _ (List.mem_append_right _ (List.mem_append_left _ (show _ ∈ my_134_3 from List.mem_of_getElem? (i := 24) rfl)))))
theorem cd_134_367 : mt_cd 134 367 = some (.new 144) := mt_cd_of (q := (367, .new 144, 3)) mq_134 ci_134 (List.mem_append_right _ (List.mem_append_right _ (List.mem_append_right _ (List.mem_append_left _ (show _ ∈ my_134_3 from List.mem_of_getElem? (i := 25) rfl)))))
theorem cd_134_370 : mt_cd 134 370 = some (.dup) := mt_cd_of (q := (370, .dup, 1)) mq_134 ci_134 (List.mem_append_right _ (List.mem_append_right _ (List.mem_append_right _ (List.mem_append_left _ (show _ ∈ my_134_3 from List.mem_of_getElem? (i := 26) rfl)))))
theorem cd_134_371 : mt_cd 134 371 = some (.invokespecial 146) := mt_cd_of (q := (371, .invokespecial 146, 3)) mq_134 ci_134 (List.mem_append_right _ (List.mem_append_right _ (List.mem_append_right _ (List.mem_append_left _ (show _ ∈ my_134_3 from List.mem_of_getElem? (i := 27) rfl)))))
theorem cd_134_374 : mt_cd 134 374 = some (.putfield 147) := mt_cd_of (q := (374, .putfield 147, 3)) mq_134 ci_134 (List.mem_append_right _ (List.mem_append_right _ (List.mem_append_right _ (List.mem_append_left _ (show _ ∈ my_134_3 from List.mem_of_getElem? (i := 28) rfl)))))
theorem cd_134_377 : mt_cd 134 377 = some (.aload_n 0) := mt_cd_of (q := (377, .aload_n 0, 1)) mq_134 ci_134 (List.mem_append_right _ (List.mem_append_right _ (List.mem_append_right _ (List.mem_append_left _ (show _ ∈ my_134_3 from List.mem_of_getElem? (i := 29) rfl)))))
theorem cd_134_378 : mt_cd 134 378 = some (.new 144) := mt_cd_of (q := (378, .new 144, 3)) mq_134 ci_134 (List.mem_append_right _ (List.mem_append_right _ (List.mem_append_right _ (List.mem_append_left _ (show _ ∈ my_134_3 from List.mem_of_getElem? (i := 30) rfl)))))
theorem cd_134_381 : mt_cd 134 381 = some (.dup) := mt_cd_of (q := (381, .dup, 1)) mq_134 ci_134 (List.mem_append_right _ (List.mem_append_right _ (List.mem_append_right _ (List.mem_append_left _ (show _ ∈ my_134_3 from List.mem_of_getElem? (i := 31) rfl)))))
theorem cd_134_382 : mt_cd 134 382 = some (.invokespecial 146) := mt_cd_of (q := (382, .invokespecial 146, 3)) mq_134 ci_134 (List.mem_append_right _ (List.mem_append_right _ (List.mem_append_right _ (List.mem_append_left _ (show _ ∈ my_134_3 from List.mem_of_getElem? (i := 32) rfl)))))
theorem cd_134_385 : mt_cd 134 385 = some (.putfield 151) := mt_cd_of (q := (385, .putfield 151, 3)) mq_134 ci_134 (List.mem_append_right _ (List.mem_append_right _ (List.mem_append_right _ (List.mem_append_left _ (show _ ∈ my_134_3 from List.mem_of_getElem? (i := 33) rfl)))))
theorem cd_134_388 : mt_cd 134 388 = some (.aload_n 0) := mt_cd_of (q := (388, .aload_n 0, 1)) mq_134 ci_134 (List.mem_append_right _ (List.mem_append_right _ (List.mem_append_right _ (List.mem_append_left _ (show _ ∈ my_134_3 from List.mem_of_getElem? (i := 34) rfl)))))
theorem cd_134_389 : mt_cd 134 389 = some (.sipush 2000) := mt_cd_of (q := (389, .sipush 2000, 3)) mq_134 ci_134 (List.mem_append_right _ (List.mem_append_right _ (List.mem_append_right _ (List.mem_append_left _ (show _ ∈ my_134_3 from List.mem_of_getElem? (i := 35) rfl)))))
theorem cd_134_392 : mt_cd 134 392 = some (.newarray .int) := mt_cd_of (q := (392, .newarray .int, 2)) mq_134 ci_134 (List.mem_append_right _ (List.mem_append_right _ (List.mem_append_right _ (List.mem_append_left _ (show _ ∈ my_134_3 from List.mem_of_getElem? (i := 36) rfl)))))
theorem cd_134_394 : mt_cd 134 394 = some (.putfield 154) := mt_cd_of (q := (394, .putfield 154, 3)) mq_134 ci_134 (List.mem_append_right _ (List.mem_append_right _ (List.mem_append_right _ (List.mem_append_left _ (show _ ∈ my_134_3 from List.mem_of_getElem? (i := 37) rfl)))))
theorem cd_134_397 : mt_cd 134 397 = some (.aload_n 0) := mt_cd_of (q := (397, .aload_n 0, 1)) mq_134 ci_134 (List.mem_append_right _ (List.mem_append_right _ (List.mem_append_right _ (List.mem_append_left _ (show _ ∈ my_134_3 from List.mem_of_getElem? (i := 38) rfl)))))
theorem cd_134_398 : mt_cd 134 398 = some (.sipush 2000) := mt_cd_of (q := (398, .sipush 2000, 3)) mq_134 ci_134 (List.mem_append_right _ (List.mem_append_right _ (List.mem_append_right _ (List.mem_append_left _ (show _ ∈ my_134_3 from List.mem_of_getElem? (i := 39) rfl)))))
theorem cd_134_401 : mt_cd 134 401 = some (.newarray .int) := mt_cd_of (q := (401, .newarray .int, 2)) mq_134 ci_134 (List.mem_append_right _ (List.mem_append_right _ (List.mem_append_right _ (List.mem_append_left _ (show _ ∈ my_134_3 from List.mem_of_getElem? (i := 40) rfl)))))
theorem cd_134_403 : mt_cd 134 403 = some (.putfield 157) := mt_cd_of (q := (403, .putfield 157, 3)) mq_134 ci_134 (List.mem_append_right _ (List.mem_append_right _ (List.mem_append_right _ (List.mem_append_left _ (show _ ∈ my_134_3 from List.mem_of_getElem? (i := 41) rfl)))))
theorem cd_134_406 : mt_cd 134 406 = some (.aload_n 0) := mt_cd_of (q := (406, .aload_n 0, 1)) mq_134 ci_134 (List.mem_append_right _ (List.mem_append_right _ (List.mem_append_right _ (List.mem_append_left _ (show _ ∈ my_134_3 from List.mem_of_getElem? (i := 42) rfl)))))
theorem cd_134_407 : mt_cd 134 407 = some (.sipush 2000) := mt_cd_of (q := (407, .sipush 2000, 3)) mq_134 ci_134 (List.mem_append_right _ (List.mem_append_right _ (List.mem_append_right _ (List.mem_append_left _ (show _ ∈ my_134_3 from List.mem_of_getElem? (i := 43) rfl)))))
theorem cd_134_410 : mt_cd 134 410 = some (.newarray .int) := mt_cd_of (q := (410, .newarray .int, 2)) mq_134 ci_134 (List.mem_append_right _ (List.mem_append_right _ (List.mem_append_right _ (List.mem_append_left _ (show _ ∈ my_134_3 from List.mem_of_getElem? (i := 44) rfl)))))
theorem cd_134_412 : mt_cd 134 412 = some (.putfield 160) := mt_cd_of (q := (412, .putfield 160, 3)) mq_134 ci_134 (List.mem_append_right _ (List.mem_append_right _ (List.mem_append_right _ (List.mem_append_left _ (show _ ∈ my_134_3 from List.mem_of_getElem? (i := 45) rfl)))))
theorem cd_134_415 : mt_cd 134 415 = some (.aload_n 0) := mt_cd_of (q := (415, .aload_n 0, 1)) mq_134 ci_134 (List.mem_append_right _ (List.mem_append_right _ (List.mem_append_right _ (List.mem_append_left _ (show _ ∈ my_134_3 from List.mem_of_getElem? (i := 46) rfl)))))
theorem cd_134_416 : mt_cd 134 416 = some (.sipush 2000) := mt_cd_of (q := (416, .sipush 2000, 3)) mq_134 ci_134 (List.mem_append_right _ (List.mem_append_right _ (List.mem_append_right _ (List.mem_append_left _ (show _ ∈ my_134_3 from List.mem_of_getElem? (i := 47) rfl)))))
theorem cd_134_419 : mt_cd 134 419 = some (.newarray .int) := mt_cd_of (q := (419, .newarray .int, 2)) mq_134 ci_134 (List.mem_append_right _ (List.mem_append_right _ (List.mem_append_right _ (List.mem_append_left _ (show _ ∈ my_134_3 from List.mem_of_getElem? (i := 48) rfl)))))
theorem cd_134_421 : mt_cd 134 421 = some (.putfield 163) := mt_cd_of (q := (421, .putfield 163, 3)) mq_134 ci_134 (List.mem_append_right _ (List.mem_append_right _ (List.mem_append_right _ (List.mem_append_left _ (show _ ∈ my_134_3 from List.mem_of_getElem? (i := 49) rfl)))))
theorem cd_134_424 : mt_cd 134 424 = some (.aload_n 0) := mt_cd_of (q := (424, .aload_n 0, 1)) mq_134 ci_134 (List.mem_append_right _ (List.mem_append_right _ (List.mem_append_right _ (List.mem_append_left _ (show _ ∈ my_134_3 from List.mem_of_getElem? (i := 50) rfl)))))
theorem cd_134_425 : mt_cd 134 425 = some (.sipush 2000) := mt_cd_of (q := (425, .sipush 2000, 3)) mq_134 ci_134 (List.mem_append_right _ (List.mem_append_right _ (List.mem_append_right _ (List.mem_append_left _ (show _ ∈ my_134_3 from List.mem_of_getElem? (i := 51) rfl)))))
theorem cd_134_428 : mt_cd 134 428 = some (.newarray .int) := mt_cd_of (q := (428, .newarray .int, 2)) mq_134 ci_134 (List.mem_append_right _ (List.mem_append_right _ (List.mem_append_right _ (List.mem_append_left _ (show _ ∈ my_134_3 from List.mem_of_getElem? (i := 52) rfl)))))
theorem cd_134_430 : mt_cd 134 430 = some (.putfield 166) := mt_cd_of (q := (430, .putfield 166, 3)) mq_134 ci_134 (List.mem_append_right _ (List.mem_append_right _ (List.mem_append_right _ (List.mem_append_left _ (show _ ∈ my_134_3 from List.mem_of_getElem? (i := 53) rfl)))))
theorem cd_134_433 : mt_cd 134 433 = some (.aload_n 0) := mt_cd_of (q := (433, .aload_n 0, 1)) mq_134 ci_134 (List.mem_append_right _ (List.mem_append_right _ (List.mem_append_right _ (List.mem_append_left _ (show _ ∈ my_134_3 from List.mem_of_getElem? (i := 54) rfl)))))
theorem cd_134_434 : mt_cd 134 434 = some (.sipush 2000) := mt_cd_of (q := (434, .sipush 2000, 3)) mq_134 ci_134 (List.mem_append_right _ (List.mem_append_right _ (List.mem_append_right _ (List.mem_append_left _ (show _ ∈ my_134_3 from List.mem_of_getElem? (i := 55) rfl)))))
theorem cd_134_437 : mt_cd 134 437 = some (.newarray .long) := mt_cd_of (q := (437, .newarray .long, 2)) mq_134 ci_134 (List.mem_append_right _ (List.mem_append_right _ (List.mem_append_right _ (List.mem_append_left _ (show _ ∈ my_134_3 from List.mem_of_getElem? (i := 56) rfl)))))
theorem cd_134_439 : mt_cd 134 439 = some (.putfield 169) := mt_cd_of (q := (439, .putfield 169, 3)) mq_134 ci_134 (List.mem_append_right _ (List.mem_append_right _ (List.mem_append_right _ (List.mem_append_left _ (show _ ∈ my_134_3 from List.mem_of_getElem? (i := 57) rfl)))))
theorem cd_134_442 : mt_cd 134 442 = some (.aload_n 0) := mt_cd_of (q := (442, .aload_n 0, 1)) mq_134 ci_134 (List.mem_append_right _ (List.mem_append_right _ (List.mem_append_right _ (List.mem_append_left _ (show _ ∈ my_134_3 from List.mem_of_getElem? (i := 58) rfl)))))
theorem cd_134_443 : mt_cd 134 443 = some (.bipush 32) := mt_cd_of (q := (443, .bipush 32, 2)) mq_134 ci_134 (List.mem_append_right _ (List.mem_append_right _ (List.mem_append_right _ (List.mem_append_left _ (show _ ∈ my_134_3 from List.mem_of_getElem? (i := 59) rfl)))))
theorem cd_134_445 : mt_cd 134 445 = some (.newarray .long) := mt_cd_of (q := (445, .newarray .long, 2)) mq_134 ci_134 (List.mem_append_right _ (List.mem_append_right _ (List.mem_append_right _ (List.mem_append_right _ (List.mem_append_left _ (show _ ∈ my_134_4 from List.mem_of_getElem? (i := 0) rfl))))))
theorem cd_134_447 : mt_cd 134 447 = some (.putfield 172) := mt_cd_of (q := (447, .putfield 172, 3)) mq_134 ci_134 (List.mem_append_right _ (List.mem_append_right _ (List.mem_append_right _ (List.mem_append_right _ (List.mem_append_left _ (show _ ∈ my_134_4 from List.mem_of_getElem? (i := 1) rfl))))))
theorem cd_134_450 : mt_cd 134 450 = some (.aload_n 0) := mt_cd_of (q := (450, .aload_n 0, 1)) mq_134 ci_134 (List.mem_append_right _ (List.mem_append_right _ (List.mem_append_right _ (List.mem_append_right _ (List.mem_append_left _ (show _ ∈ my_134_4 from List.mem_of_getElem? (i := 2) rfl))))))
theorem cd_134_451 : mt_cd 134 451 = some (.bipush 32) := mt_cd_of (q := (451, .bipush 32, 2)) mq_134 ci_134 (List.mem_append_right _ (List.mem_append_right _ (List.mem_append_right _ (List.mem_append_right _ (List.mem_append_left _ (show _ ∈ my_134_4 from List.mem_of_getElem? (i := 3) rfl))))))
theorem cd_134_453 : mt_cd 134 453 = some (.newarray .long) := mt_cd_of (q := (453, .newarray .long, 2)) mq_134 ci_134 (List.mem_append_right _ (List.mem_append_right _ (List.mem_append_right _ (List.mem_append_right _ (List.mem_append_left _ (show _ ∈ my_134_4 from List.mem_of_getElem? (i := 4) rfl))))))
theorem cd_134_455 : mt_cd 134 455 = some (.putfield 175) := mt_cd_of (q := (455, .putfield 175, 3)) mq_134 ci_134 (List.mem_append_right _ (List.mem_append_right _ (List.mem_append_right _ (List.mem_append_right _ (List.mem_append_left _ (show _ ∈ my_134_4 from List.mem_of_getElem? (i := 5) rfl))))))
theorem cd_134_458 : mt_cd 134 458 = some (.aload_n 0) := mt_cd_of (q := (458, .aload_n 0, 1)) mq_134 ci_134 (List.mem_append_right _ (List.mem_append_right _ (List.mem_append_right _ (List.mem_append_right _ (List.mem_append_left _ (show _ ∈ my_134_4 from List.mem_of_getElem? (i := 6) rfl))))))
theorem cd_134_459 : mt_cd 134 459 = some (.bipush 16) := mt_cd_of (q := (459, .bipush 16, 2)) mq_134 ci_134 (List.mem_append_right _ (List.mem_append_right _ (List.mem_append_right _ (List.mem_append_right _ (List.mem_append_left _ (show _ ∈ my_134_4 from List.mem_of_getElem? (i := 7) rfl))))))
theorem cd_134_461 : mt_cd 134 461 = some (.newarray .int) := mt_cd_of (q := (461, .newarray .int, 2)) mq_134 ci_134 (List.mem_append_right _ (List.mem_append_right _ (List.mem_append_right _ (List.mem_append_right _ (List.mem_append_left _ (show _ ∈ my_134_4 from List.mem_of_getElem? (i := 8) rfl))))))
theorem cd_134_463 : mt_cd 134 463 = some (.putfield 178) := mt_cd_of (q := (463, .putfield 178, 3)) mq_134 ci_134 (List.mem_append_right _ (List.mem_append_right _ (List.mem_append_right _ (List.mem_append_right _ (List.mem_append_left _ (show _ ∈ my_134_4 from List.mem_of_getElem? (i := 9) rfl))))))
theorem cd_134_466 : mt_cd 134 466 = some (.aload_n 0) := mt_cd_of (q := (466, .aload_n 0, 1)) mq_134 ci_134 (List.mem_append_right _ (List.mem_append_right _ (List.mem_append_right _ (List.mem_append_right _ (List.mem_append_left _ (show _ ∈ my_134_4 from List.mem_of_getElem? (i := 10) rfl))))))
theorem cd_134_467 : mt_cd 134 467 = some (.bipush 16) := mt_cd_of (q := (467, .bipush 16, 2)) mq_134 ci_134 (List.mem_append_right _ (List.mem_append_right _ (List.mem_append_right _ (List.mem_append_right _ (List.mem_append_left _ (show _ ∈ my_134_4 from List.mem_of_getElem? (i := 11) rfl))))))
theorem cd_134_469 : mt_cd 134 469 = some (.newarray .int) := mt_cd_of (q := (469, .newarray .int, 2)) mq_134 ci_134 (List.mem_append_right _ (List.mem_append_right _ (List.mem_append_right _ (List.mem_append_right _ (List.mem_append_left _ (show _ ∈ my_134_4 from List.mem_of_getElem? (i := 12) rfl))))))
theorem cd_134_471 : mt_cd 134 471 = some (.putfield 181) := mt_cd_of (q := (471, .putfield 181, 3)) mq_134 ci_134 (List.mem_append_right _ (List.mem_append_right _ (List.mem_append_right _ (List.mem_append_right _ (List.mem_append_left _ (show _ ∈ my_134_4 from List.mem_of_getElem? (i := 13) rfl))))))
theorem cd_134_474 : mt_cd 134 474 = some (.aload_n 0) := mt_cd_of (q := (474, .aload_n 0, 1)) mq_134 ci_134 (List.mem_append_right _ (List.mem_append_right _ (List.mem_append_right _ (List.mem_append_right _ (List.mem_append_left _ (show _ ∈ my_134_4 from List.mem_of_getElem? (i := 14) rfl))))))
theorem cd_134_475 : mt_cd 134 475 = some (.bipush 16) := mt_cd_of (q := (475, .bipush 16, 2)) mq_134 ci_134 (List.mem_append_right _ (List.mem_append_right _ (List.mem_append_right _ (List.mem_append_right _ (List.mem_append_left _ (show _ ∈ my_134_4 from List.mem_of_getElem? (i := 15) rfl))))))
theorem cd_134_477 : mt_cd 134 477 = some (.newarray .int) := mt_cd_of (q := (477, .newarray .int, 2)) mq_134 ci_134 (List.mem_append_right _ (List.mem_append_right _ (List.mem_append_right _ (List.mem_append_right _ (List.mem_append_left _ (show _ ∈ my_134_4 from List.mem_of_getElem? (i := 16) rfl))))))
theorem cd_134_479 : mt_cd 134 479 = some (.putfield 184) := mt_cd_of (q := (479, .putfield 184, 3)) mq_134 ci_134 (List.mem_append_right _ (List.mem_append_right _ (List.mem_append_right _ (List.mem_append_right _ (List.mem_append_left _ (show _ ∈ my_134_4 from List.mem_of_getElem? (i := 17) rfl))))))
theorem cd_134_482 : mt_cd 134 482 = some (.aload_n 0) := mt_cd_of (q := (482, .aload_n 0, 1)) mq_134 ci_134 (List.mem_append_right _ (List.mem_append_right _ (List.mem_append_right _ (List.mem_append_right _ (List.mem_append_left _ (show _ ∈ my_134_4 from List.mem_of_getElem? (i := 18) rfl))))))
theorem cd_134_483 : mt_cd 134 483 = some (.bipush 16) := mt_cd_of (q := (483, .bipush 16, 2)) mq_134 ci_134 (List.mem_append_right _ (List.mem_append_right _ (List.mem_append_right _ (List.mem_append_right _ (List.mem_append_left _ (show _ ∈ my_134_4 from List.mem_of_getElem? (i := 19) rfl))))))
theorem cd_134_485 : mt_cd 134 485 = some (.newarray .int) := mt_cd_of (q := (485, .newarray .int, 2)) mq_134 ci_134 (List.mem_append_right _ (List.mem_append_right _ (List.mem_append_right _ (List.mem_append_right _ (List.mem_append_left _ (show _ ∈ my_134_4 from List.mem_of_getElem? (i := 20) rfl))))))
theorem cd_134_487 : mt_cd 134 487 = some (.putfield 187) := mt_cd_of (q := (487, .putfield 187, 3)) mq_134 ci_134 (List.mem_append_right _ (List.mem_append_right _ (List.mem_append_right _ (List.mem_append_right _ (List.mem_append_left _ (show _ ∈ my_134_4 from List.mem_of_getElem? (i := 21) rfl))))))
theorem cd_134_490 : mt_cd 134 490 = some (.aload_n 0) := mt_cd_of (q := (490, .aload_n 0, 1)) mq_134 ci_134 (List.mem_append_right _ (List.mem_append_right _ (List.mem_append_right _ (List.mem_append_right _ (List.mem_append_left _ (show _ ∈ my_134_4 from List.mem_of_getElem? (i := 22) rfl))))))
theorem cd_134_491 : mt_cd 134 491 = some (.bipush 16) := mt_cd_of (q := (491, .bipush 16, 2)) mq_134 ci_134 (List.mem_append_right _ (List.mem_append_right _ (List.mem_append_right _ (List.mem_append_right _ (List.mem_append_left _ (show _ ∈ my_134_4 from List.mem_of_getElem? (i := 23) rfl))))))
theorem cd_134_493 : mt_cd 134 493 = some (.newarray .long) := mt_cd_of (q := (493, .newarray .long, 2)) mq_134 ci_134 (List.mem_append_right _ (List.mem_append_right _ (List.mem_append_right _ (List.mem_append_right _ (List.mem_append_left _ (show _ ∈ my_134_4 from List.mem_of_getElem? (i := 24) rfl))))))
theorem cd_134_495 : mt_cd 134 495 = some (.putfield 190) := mt_cd_of (q := (495, .putfield 190, 3)) mq_134 ci_134 (List.mem_append_right _ (List.mem_append_right _ (List.mem_append_right _ (List.mem_append_right _ (List.mem_append_left _ (show _ ∈ my_134_4 from List.mem_of_getElem? (i := 25) rfl))))))
theorem cd_134_498 : mt_cd 134 498 = some (.aload_n 0) := mt_cd_of (q := (498, .aload_n 0, 1)) mq_134 ci_134 (List.mem_append_right _ (List.mem_append_right _ (List.mem_append_right _ (List.mem_append_right _ (List.mem_append_left _ (show _ ∈ my_134_4 from List.mem_of_getElem? (i := 26) rfl))))))
theorem cd_134_499 : mt_cd 134 499 = some (.sipush 2000) := mt_cd_of (q := (499, .sipush 2000, 3)) mq_134 ci_134 (List.mem_append_right _ (List.mem_append_right _ (List.mem_append_right _ (List.mem_append_right _ (List.mem_append_left _ (show _ ∈ my_134_4 from List.mem_of_getElem? (i := 27) rfl))))))
theorem cd_134_502 : mt_cd 134 502 = some (.newarray .int) := mt_cd_of (q := (502, .newarray .int, 2)) mq_134 ci_134 (List.mem_append_right _ (List.mem_append_right _ (List.mem_append_right _ (List.mem_append_right _ (List.mem_append_left _ (show _ ∈ my_134_4 from List.mem_of_getElem? (i := 28) rfl))))))
theorem cd_134_504 : mt_cd 134 504 = some (.putfield 193) := mt_cd_of (q := (504, .putfield 193, 3)) mq_134 ci_134 (List.mem_append_right _ (List.mem_append_right _ (List.mem_append_right _ (List.mem_append_right _ (List.mem_append_left _ (show _ ∈ my_134_4 from List.mem_of_getElem? (i := 29) rfl))))))
theorem cd_134_507 : mt_cd 134 507 = some (.aload_n 0) := mt_cd_of (q := (507, .aload_n 0, 1)) mq_134 ci_134 (List.mem_append_right _ (List.mem_append_right _ (List.mem_append_right _ (List.mem_append_right _ (List.mem_append_left _ (show _ ∈ my_134_4 from List.mem_of_getElem? (i := 30) rfl))))))
theorem cd_134_508 : mt_cd 134 508 = some (.sipush 2000) := mt_cd_of (q := (508, .sipush 2000, 3)) mq_134 ci_134 (List.mem_append_right _ (List.mem_append_right _ (List.mem_append_right _ (List.mem_append_right _ (List.mem_append_left _ (show _ ∈ my_134_4 from List.mem_of_getElem? (i := 31) rfl))))))
theorem cd_134_511 : mt_cd 134 511 = some (.newarray .int) := mt_cd_of (q := (511, .newarray .int, 2)) mq_134 ci_134 (List.mem_append_right _ (List.mem_append_right _ (List.mem_append_right _ (List.mem_append_right _ (List.mem_append_left _ (show _ ∈ my_134_4 from List.mem_of_getElem? (i := 32) rfl))))))
theorem cd_134_513 : mt_cd 134 513 = some (.putfield 196) := mt_cd_of (q := (513, .putfield 196, 3)) mq_134 ci_134 (List.mem_append_right _ (List.mem_append_right _ (List.mem_append_right _ (List.mem_append_right _ (List.mem_append_left _ (show _ ∈ my_134_4 from List.mem_of_getElem? (i := 33) rfl))))))
theorem cd_134_516 : mt_cd 134 516 = some (.aload_n 0) := mt_cd_of (q := (516, .aload_n 0, 1)) mq_134 ci_134 (List.mem_append_right _ (List.mem_append_right _ (List.mem_append_right _ (List.mem_append_right _ (List.mem_append_left _ (show _ ∈ my_134_4 from List.mem_of_getElem? (i := 34) rfl))))))
theorem cd_134_517 : mt_cd 134 517 = some (.sipush 2000) := mt_cd_of (q := (517, .sipush 2000, 3)) mq_134 ci_134 (List.mem_append_right _ (List.mem_append_right _ (List.mem_append_right _ (List.mem_append_right _ (List.mem_append_left _ (show _ ∈ my_134_4 from List.mem_of_getElem? (i := 35) rfl))))))
theorem cd_134_520 : mt_cd 134 520 = some (.newarray .int) := mt_cd_of (q := (520, .newarray .int, 2)) mq_134 ci_134 (List.mem_append_right _ (List.mem_append_right _ (List.mem_append_right _ (List.mem_append_right _ (List.mem_append_left _ (show _ ∈ my_134_4 from List.mem_of_getElem? (i := 36) rfl))))))
theorem cd_134_522 : mt_cd 134 522 = some (.putfield 199) := mt_cd_of (q := (522, .putfield 199, 3)) mq_134 ci_134 (List.mem_append_right _ (List.mem_append_right _ (List.mem_append_right _ (List.mem_append_right _ (List.mem_append_left _ (show _ ∈ my_134_4 from List.mem_of_getElem? (i := 37) rfl))))))
theorem cd_134_525 : mt_cd 134 525 = some (.aload_n 0) := mt_cd_of (q := (525, .aload_n 0, 1)) mq_134 ci_134 (List.mem_append_right _ (List.mem_append_right _ (List.mem_append_right _ (List.mem_append_right _ (List.mem_append_left _ (show _ ∈ my_134_4 from List.mem_of_getElem? (i := 38) rfl))))))
theorem cd_134_526 : mt_cd 134 526 = some (.sipush 2000) := mt_cd_of (q := (526, .sipush 2000, 3)) mq_134 ci_134 (List.mem_append_right _ (List.mem_append_right _ (List.mem_append_right _ (List.mem_append_right _ (List.mem_append_left _ (show _ ∈ my_134_4 from List.mem_of_getElem? (i := 39) rfl))))))
theorem cd_134_529 : mt_cd 134 529 = some (.newarray .int) := mt_cd_of (q := (529, .newarray .int, 2)) mq_134 ci_134 (List.mem_append_right _ (List.mem_append_right _ (List.mem_append_right _ (List.mem_append_right _ (List.mem_append_left _ (show _ ∈ my_134_4 from List.mem_of_getElem? (i := 40) rfl))))))
theorem cd_134_531 : mt_cd 134 531 = some (.putfield 202) := mt_cd_of (q := (531, .putfield 202, 3)) mq_134 ci_134 (List.mem_append_right _ (List.mem_append_right _ (List.mem_append_right _ (List.mem_append_right _ (List.mem_append_left _ (show _ ∈ my_134_4 from List.mem_of_getElem? (i := 41) rfl))))))
theorem cd_134_534 : mt_cd 134 534 = some (.aload_n 0) := mt_cd_of (q := (534, .aload_n 0, 1)) mq_134 ci_134 (List.mem_append_right _ (List.mem_append_right _ (List.mem_append_right _ (List.mem_append_right _ (List.mem_append_left _ (show _ ∈ my_134_4 from List.mem_of_getElem? (i := 42) rfl))))))
theorem cd_134_535 : mt_cd 134 535 = some (.sipush 2000) := mt_cd_of (q := (535, .sipush 2000, 3)) mq_134 ci_134 (List.mem_append_right _ (List.mem_append_right _ (List.mem_append_right _ (List.mem_append_right _ (List.mem_append_left _ (show _ ∈ my_134_4 from List.mem_of_getElem? (i := 43) rfl))))))
theorem cd_134_538 : mt_cd 134 538 = some (.newarray .int) := mt_cd_of (q := (538, .newarray .int, 2)) mq_134 ci_134 (List.mem_append_right _ (List.mem_append_right _ (List.mem_append_right _ (List.mem_append_right _ (List.mem_append_left _ (show _ ∈ my_134_4 from List.mem_of_getElem? (i := 44) rfl))))))
theorem cd_134_540 : mt_cd 134 540 = some (.putfield 205) := mt_cd_of (q := (540, .putfield 205, 3)) mq_134 ci_134 (List.mem_append_right _ (List.mem_append_right _ (List.mem_append_right _ (List.mem_append_right _ (List.mem_append_left _ (show _ ∈ my_134_4 from List.mem_of_getElem? (i := 45) rfl))))))
theorem cd_134_543 : mt_cd 134 543 = some (.aload_n 0) := mt_cd_of (q := (543, .aload_n 0, 1)) mq_134 ci_134 (List.mem_append_right _ (List.mem_append_right _ (List.mem_append_right _ (List.mem_append_right _ (List.mem_append_left _ (show _ ∈ my_134_4 from List.mem_of_getElem? (i := 46) rfl))))))
theorem cd_134_544 : mt_cd 134 544 = some (.sipush 2000) := mt_cd_of (q := (544, .sipush 2000, 3)) mq_134 ci_134 (List.mem_append_right _ (List.mem_append_right _ (List.mem_append_right _ (List.mem_append_right _ (List.mem_append_left _ (show _ ∈ my_134_4 from List.mem_of_getElem? (i := 47) rfl))))))
theorem cd_134_547 : mt_cd 134 547 = some (.newarray .long) := mt_cd_of (q := (547, .newarray .long, 2)) mq_134 ci_134 (List.mem_append_right _ (List.mem_append_right _ (List.mem_append_right _ (List.mem_append_right _ (List.mem_append_left _ (show _ ∈ my_134_4 from List.mem_of_getElem? (i := 48) rfl))))))
theorem cd_134_549 : mt_cd 134 549 = some (.putfield 208) := mt_cd_of (q := (549, .putfield 208, 3)) mq_134 ci_134 (List.mem_append_right _ (List.mem_append_right _ (List.mem_append_right _ (List.mem_append_right _ (List.mem_append_left _ (show _ ∈ my_134_4 from List.mem_of_getElem? (i := 49) rfl))))))
theorem cd_134_552 : mt_cd 134 552 = some (.aload_n 0) := mt_cd_of (q := (552, .aload_n 0, 1)) mq_134 ci_134 (List.mem_append_right _ (List.mem_append_right _ (List.mem_append_right _ (List.mem_append_right _ (List.mem_append_left _ (show _ ∈ my_134_4 from List.mem_of_getElem? (i := 50) rfl))))))
theorem cd_134_553 : mt_cd 134 553 = some (.sipush 2000) := mt_cd_of (q := (553, .sipush 2000, 3)) mq_134 ci_134 (List.mem_append_right _ (List.mem_append_right _ (List.mem_append_right _ (List.mem_append_right _ (List.mem_append_left _ (show _ ∈ my_134_4 from List.mem_of_getElem? (i := 51) rfl))))))
theorem cd_134_556 : mt_cd 134 556 = some (.newarray .int) := mt_cd_of (q := (556, .newarray .int, 2)) mq_134 ci_134 (List.mem_append_right _ (List.mem_append_right _ (List.mem_append_right _ (List.mem_append_right _ (List.mem_append_left _ (show _ ∈ my_134_4 from List.mem_of_getElem? (i := 52) rfl))))))
theorem cd_134_558 : mt_cd 134 558 = some (.putfield 211) := mt_cd_of (q := (558, .putfield 211, 3)) mq_134 ci_134 (List.mem_append_right _ (List.mem_append_right _ (List.mem_append_right _ (List.mem_append_right _ (List.mem_append_left _ (show _ ∈ my_134_4 from List.mem_of_getElem? (i := 53) rfl))))))
theorem cd_134_561 : mt_cd 134 561 = some (.aload_n 0) := mt_cd_of (q := (561, .aload_n 0, 1)) mq_134 ci_134 (List.mem_append_right _ (List.mem_append_right _ (List.mem_append_right _ (List.mem_append_right _ (List.mem_append_left _ (show _ ∈ my_134_4 from List.mem_of_getElem? (i := 54) rfl))))))
theorem cd_134_562 : mt_cd 134 562 = some (.sipush 2000) := mt_cd_of (q := (562, .sipush 2000, 3)) mq_134 ci_134 (List.mem_append_right _ (List.mem_append_right _ (List.mem_append_right _ (List.mem_append_right _ (List.mem_append_left _ (show _ ∈ my_134_4 from List.mem_of_getElem? (i := 55) rfl))))))
theorem cd_134_565 : mt_cd 134 565 = some (.newarray .int) := mt_cd_of (q := (565, .newarray .int, 2)) mq_134 ci_134 (List.mem_append_right _ (List.mem_append_right _ (List.mem_append_right _ (List.mem_append_right _ (List.mem_append_left _ (show _ ∈ my_134_4 from List.mem_of_getElem? (i := 56) rfl))))))
theorem cd_134_567 : mt_cd 134 567 = some (.putfield 214) := mt_cd_of (q := (567, .putfield 214, 3)) mq_134 ci_134 (List.mem_append_right _ (List.mem_append_right _ (List.mem_append_right _ (List.mem_append_right _ (List.mem_append_left _ (show _ ∈ my_134_4 from List.mem_of_getElem? (i := 57) rfl))))))
theorem cd_134_570 : mt_cd 134 570 = some (.aload_n 0) := mt_cd_of (q := (570, .aload_n 0, 1)) mq_134 ci_134 (List.mem_append_right _ (List.mem_append_right _ (List.mem_append_right _ (List.mem_append_right _ (List.mem_append_left _ (show _ ∈ my_134_4 from List.mem_of_getElem? (i := 58) rfl))))))
theorem cd_134_571 : mt_cd 134 571 = some (.sipush 2000) := mt_cd_of (q := (571, .sipush 2000, 3)) mq_134 ci_134 (List.mem_append_right _ (List.mem_append_right _ (List.mem_append_right _ (List.mem_append_right _ (List.mem_append_left _ (show _ ∈ my_134_4 from List.mem_of_getElem? (i := 59) rfl))))))
theorem cd_134_574 : mt_cd 134 574 = some (.newarray .int) := mt_cd_of (q := (574, .newarray .int, 2)) mq_134 ci_134 (List.mem_append_right _ (List.mem_append_right _ (List.mem_append_right _ (List.mem_append_right _ (List.mem_append_right _ ((show _ ∈ my_134_5 from List.mem_of_getElem? (i := 0) rfl)))))))
theorem cd_134_576 : mt_cd 134 576 = some (.putfield 217) := mt_cd_of (q := (576, .putfield 217, 3)) mq_134 ci_134 (List.mem_append_right _ (List.mem_append_right _ (List.mem_append_right _ (List.mem_append_right _ (List.mem_append_right _ ((show _ ∈ my_134_5 from List.mem_of_getElem? (i := 1) rfl)))))))
theorem cd_134_579 : mt_cd 134 579 = some (.aload_n 0) := mt_cd_of (q := (579, .aload_n 0, 1)) mq_134 ci_134 (List.mem_append_right _ (List.mem_append_right _ (List.mem_append_right _ (List.mem_append_right _ (List.mem_append_right _ ((show _ ∈ my_134_5 from List.mem_of_getElem? (i := 2) rfl)))))))
theorem cd_134_580 : mt_cd 134 580 = some (.sipush 2000) := mt_cd_of (q := (580, .sipush 2000, 3)) mq_134 ci_134 (List.mem_append_right _ (List.mem_append_right _ (List.mem_append_right _ (List.mem_append_right _ (List.mem_append_right _ ((show _ ∈ my_134_5 from List.mem_of_getElem? (i := 3) rfl)))))))
theorem cd_134_583 : mt_cd 134 583 = some (.newarray .int) := mt_cd_of (q := (583, .newarray .int, 2)) mq_134 ci_134 (List.mem_append_right _ (List.mem_append_right _ (List.mem_append_right _ (List.mem_append_right _ (List.mem_append_right _ ((show _ ∈ my_134_5 from List.mem_of_getElem? (i := 4) rfl)))))))
theorem cd_134_585 : mt_cd 134 585 = some (.putfield 220) := mt_cd_of (q := (585, .putfield 220, 3)) mq_134 ci_134 (List.mem_append_right _ (List.mem_append_right _ (List.mem_append_right _ (List.mem_append_right _ (List.mem_append_right _ ((show _ ∈ my_134_5 from List.mem_of_getElem? (i := 5) rfl)))))))
theorem cd_134_588 : mt_cd 134 588 = some (.aload_n 0) := mt_cd_of (q := (588, .aload_n 0, 1)) mq_134 ci_134 (List.mem_append_right _ (List.mem_append_right _ (List.mem_append_right _ (List.mem_append_right _ (List.mem_append_right _ ((show _ ∈ my_134_5 from List.mem_of_getElem? (i := 6) rfl)))))))
theorem cd_134_589 : mt_cd 134 589 = some (.sipush 2000) := mt_cd_of (q := (589, .sipush 2000, 3)) mq_134 ci_134 (List.mem_append_right _ (List.mem_append_right _ (List.mem_append_right _ (List.mem_append_right _ (List.mem_append_right _ ((show _ ∈ my_134_5 from List.mem_of_getElem? (i := 7) rfl)))))))
theorem cd_134_592 : mt_cd 134 592 = some (.newarray .long) := mt_cd_of (q := (592, .newarray .long, 2)) mq_134 ci_134 (List.mem_append_right _ (List.mem_append_right _ (List.mem_append_right _ (List.mem_append_right _ (List.mem_append_right _ ((show _ ∈ my_134_5 from List.mem_of_getElem? (i := 8) rfl)))))))
theorem cd_134_594 : mt_cd 134 594 = some (.putfield 223) := mt_cd_of (q := (594, .putfield 223, 3)) mq_134 ci_134 (List.mem_append_right _ (List.mem_append_right _ (List.mem_append_right _ (List.mem_append_right _ (List.mem_append_right _ ((show _ ∈ my_134_5 from List.mem_of_getElem? (i := 9) rfl)))))))
theorem cd_134_597 : mt_cd 134 597 = some (.aload_n 0) := mt_cd_of (q := (597, .aload_n 0, 1)) mq_134 ci_134 (List.mem_append_right _ (List.mem_append_right _ (List.mem_append_right _ (List.mem_append_right _ (List.mem_append_right _ ((show _ ∈ my_134_5 from List.mem_of_getElem? (i := 10) rfl)))))))
theorem cd_134_598 : mt_cd 134 598 = some (.sipush 2000) := mt_cd_of (q := (598, .sipush 2000, 3)) mq_134 ci_134 (List.mem_append_right _ (List.mem_append_right _ (List.mem_append_right _ (List.mem_append_right _ (List.mem_append_right _ ((show _ ∈ my_134_5 from List.mem_of_getElem? (i := 11) rfl)))))))
theorem cd_134_601 : mt_cd 134 601 = some (.newarray .long) := mt_cd_of (q := (601, .newarray .long, 2)) mq_134 ci_134 (List.mem_append_right _ (List.mem_append_right _ (List.mem_append_right _ (List.mem_append_right _ (List.mem_append_right _ ((show _ ∈ my_134_5 from List.mem_of_getElem? (i := 12) rfl)))))))
theorem cd_134_603 : mt_cd 134 603 = some (.putfield 226) := mt_cd_of (q := (603, .putfield 226, 3)) mq_134 ci_134 (List.mem_append_right _ (List.mem_append_right _ (List.mem_append_right _ (List.mem_append_right _ (List.mem_append_right _ ((show _ ∈ my_134_5 from List.mem_of_getElem? (i := 13) rfl)))))))
theorem cd_134_606 : mt_cd 134 606 = some (.aload_n 0) := mt_cd_of (q := (606, .aload_n 0, 1)) mq_134 ci_134 (List.mem_append_right _ (List.mem_append_right _ (List.mem_append_right _ (List.mem_append_right _ (List.mem_append_right _ ((show _ ∈ my_134_5 from List.mem_of_getElem? (i := 14) rfl)))))))
theorem cd_134_607 : mt_cd 134 607 = some (.sipush 2000) := mt_cd_of (q := (607, .sipush 2000, 3)) mq_134 ci_134 (List.mem_append_right _ (List.mem_append_right _ (List.mem_append_right _ (List.mem_append_right _ (List.mem_append_right _ ((show _ ∈ my_134_5 from List.mem_of_getElem? (i := 15) rfl)))))))
theorem cd_134_610 : mt_cd 134 610 = some (.anewarray 144) := mt_cd_of (q := (610, .anewarray 144, 3)) mq_134 ci_134 (List.mem_append_right _ (List.mem_append_right _ (List.mem_append_right _ (List.mem_append_right _ (List.mem_append_right _ ((show _ ∈ my_134_5 from List.mem_of_getElem? (i := 16) rfl)))))))
theorem cd_134_613 : mt_cd 134 613 = some (.putfield 229) := mt_cd_of (q := (613, .putfield 229, 3)) mq_134 ci_134 (List.mem_append_right _ (List.mem_append_right _ (List.mem_append_right _ (List.mem_append_right _ (List.mem_append_right _ ((show _ ∈ my_134_5 from List.mem_of_getElem? (i := 17) rfl)))))))
theorem cd_134_616 : mt_cd 134 616 = some (.aload_n 0) := mt_cd_of (q := (616, .aload_n 0, 1)) mq_134 ci_134 (List.mem_append_right _ (List.mem_append_right _ (List.mem_append_right _ (List.mem_append_right _ (List.mem_append_right _ ((show _ ∈ my_134_5 from List.mem_of_getElem? (i := 18) rfl)))))))
theorem cd_134_617 : mt_cd 134 617 = some (.bipush 16) := mt_cd_of (q := (617, .bipush 16, 2)) mq_134 ci_134 (List.mem_append_right _ (List.mem_append_right _ (List.mem_append_right _ (List.mem_append_right _ (List.mem_append_right _ ((show _ ∈ my_134_5 from List.mem_of_getElem? (i := 19) rfl)))))))
theorem cd_134_619 : mt_cd 134 619 = some (.newarray .int) := mt_cd_of (q := (619, .newarray .int, 2)) mq_134 ci_134 (List.mem_append_right _ (List.mem_append_right _ (List.mem_append_right _ (List.mem_append_right _ (List.mem_append_right _ ((show _ ∈ my_134_5 from List.mem_of_getElem? (i := 20) rfl)))))))
theorem cd_134_621 : mt_cd 134 621 = some (.putfield 233) := mt_cd_of (q := (621, .putfield 233, 3)) mq_134 ci_134 (List.mem_append_right _ (List.mem_append_right _ (List.mem_append_right _ (List.mem_append_right _ (List.mem_append_right _ ((show _ ∈ my_134_5 from List.mem_of_getElem? (i := 21) rfl)))))))
theorem cd_134_624 : mt_cd 134 624 = some (.aload_n 0) := mt_cd_of (q := (624, .aload_n 0, 1)) mq_134 ci_134 (List.mem_append_right _ (List.mem_append_right _ (List.mem_append_right _ (List.mem_append_right _ (List.mem_append_right _ ((show _ ∈ my_134_5 from List.mem_of_getElem? (i := 22) rfl)))))))
theorem cd_134_625 : mt_cd 134 625 = some (.bipush 16) := mt_cd_of (q := (625, .bipush 16, 2)) mq_134 ci_134 (List.mem_append_right _ (List.mem_append_right _ (List.mem_append_right _ (List.mem_append_right _ (List.mem_append_right _ ((show _ ∈ my_134_5 from List.mem_of_getElem? (i := 23) rfl)))))))
theorem cd_134_627 : mt_cd 134 627 = some (.newarray .int) := mt_cd_of (q := (627, .newarray .int, 2)) mq_134 ci_134 (List.mem_append_right _ (List.mem_append_right _ (List.mem_append_right _ (List.mem_append_right _ (List.mem_append_right _ ((show _ ∈ my_134_5 from List.mem_of_getElem? (i := 24) rfl)))))))
theorem cd_134_629 : mt_cd 134 629 = some (.putfield 236) := mt_cd_of (q := (629, .putfield 236, 3)) mq_134 ci_134 (List.mem_append_right _ (List.mem_append_right _ (List.mem_append_right _ (List.mem_append_right _ (List.mem_append_right _ ((show _ ∈ my_134_5 from List.mem_of_getElem? (i := 25) rfl)))))))
theorem cd_134_632 : mt_cd 134 632 = some (.aload_n 0) := mt_cd_of (q := (632, .aload_n 0, 1)) mq_134 ci_134 (List.mem_append_right _ (List.mem_append_right _ (List.mem_append_right _ (List.mem_append_right _ (List.mem_append_right _ ((show _ ∈ my_134_5 from List.mem_of_getElem? (i := 26) rfl)))))))
theorem cd_134_633 : mt_cd 134 633 = some (.bipush 16) := mt_cd_of (q := (633, .bipush 16, 2)) mq_134 ci_134 (List.mem_append_right _ (List.mem_append_right _ (List.mem_append_right _ (List.mem_append_right _ (List.mem_append_right _ ((show _ ∈ my_134_5 from List.mem_of_getElem? (i := 27) rfl)))))))
theorem cd_134_635 : mt_cd 134 635 = some (.newarray .int) := mt_cd_of (q := (635, .newarray .int, 2)) mq_134 ci_134 (List.mem_append_right _ (List.mem_append_right _ (List.mem_append_right _ (List.mem_append_right _ (List.mem_append_right _ ((show _ ∈ my_134_5 from List.mem_of_getElem? (i := 28) rfl)))))))
theorem cd_134_637 : mt_cd 134 637 = some (.putfield 239) := mt_cd_of (q := (637, .putfield 239, 3)) mq_134 ci_134 (List.mem_append_right _ (List.mem_append_right _ (List.mem_append_right _ (List.mem_append_right _ (List.mem_append_right _ ((show _ ∈ my_134_5 from List.mem_of_getElem? (i := 29) rfl)))))))
theorem cd_134_640 : mt_cd 134 640 = some (.aload_n 0) := mt_cd_of (q := (640, .aload_n 0, 1)) mq_134 ci_134 (List.mem_append_right _ (List.mem_append_right _ (List.mem_append_right _ (List.mem_append_right _ (List.mem_append_right _ ((show _ ∈ my_134_5 from List.mem_of_getElem? (i := 30) rfl)))))))
theorem cd_134_641 : mt_cd 134 641 = some (.bipush 16) := mt_cd_of (q := (641, .bipush 16, 2)) mq_134 ci_134 (List.mem_append_right _ (List.mem_append_right _ (List.mem_append_right _ (List.mem_append_right _ (List.mem_append_right _ ((show _ ∈ my_134_5 from List.mem_of_getElem? (i := 31) rfl)))))))
theorem cd_134_643 : mt_cd 134 643 = some (.newarray .int) := mt_cd_of (q := (643, .newarray .int, 2)) mq_134 ci_134 (List.mem_append_right _ (List.mem_append_right _ (List.mem_append_right _ (List.mem_append_right _ (List.mem_append_right _ ((show _ ∈ my_134_5 from List.mem_of_getElem? (i := 32) rfl)))))))
theorem cd_134_645 : mt_cd 134 645 = some (.putfield 242) := mt_cd_of (q := (645, .putfield 242, 3)) mq_134 ci_134 (List.mem_append_right _ (List.mem_append_right _ (List.mem_append_right _ (List.mem_append_right _ (List.mem_append_right _ ((show _ ∈ my_134_5 from List.mem_of_getElem? (i := 33) rfl)))))))
theorem cd_134_648 : mt_cd 134 648 = some (.aload_n 0) := mt_cd_of (q := (648, .aload_n 0, 1)) mq_134 ci_134 (List.mem_append_right _ (List.mem_append_right _ (List.mem_append_right _ (List.mem_append_right _ (List.mem_append_right _ ((show _ ∈ my_134_5 from List.mem_of_getElem? (i := 34) rfl)))))))
theorem cd_134_649 : mt_cd 134 649 = some (.bipush 16) := mt_cd_of (q := (649, .bipush 16, 2)) mq_134 ci_134 (List.mem_append_right _ (List.mem_append_right _ (List.mem_append_right _ (List.mem_append_right _ (List.mem_append_right _ ((show _ ∈ my_134_5 from List.mem_of_getElem? (i := 35) rfl)))))))
theorem cd_134_651 : mt_cd 134 651 = some (.newarray .long) := mt_cd_of (q := (651, .newarray .long, 2)) mq_134 ci_134 (List.mem_append_right _ (List.mem_append_right _ (List.mem_append_right _ (List.mem_append_right _ (List.mem_append_right _ ((show _ ∈ my_134_5 from List.mem_of_getElem? (i := 36) rfl)))))))
theorem cd_134_653 : mt_cd 134 653 = some (.putfield 245) := mt_cd_of (q := (653, .putfield 245, 3)) mq_134 ci_134 (List.mem_append_right _ (List.mem_append_right _ (List.mem_append_right _ (List.mem_append_right _ (List.mem_append_right _ ((show _ ∈ my_134_5 from List.mem_of_getElem? (i := 37) rfl)))))))
theorem cd_134_656 : mt_cd 134 656 = some (.return_) := mt_cd_of (q := (656, .return_, 1)) mq_134 ci_134 (List.mem_append_right _ (List.mem_append_right _ (List.mem_append_right _ (List.mem_append_right _ (List.mem_append_right _ ((show _ ∈ my_134_5 from List.mem_of_getElem? (i := 38) rfl)))))))
theorem b_134_0 {d : Nat} {Q : (Option Value ⊕ Nat) → mi_H → Prop} (n sl : Nat) (f : Nat → mi_C) {l1 : Nat} {fs2 : List Value} {fs6 : List Value} {m10 : Nat} {fs13 : List Value} {m17 : Nat} {fs20 : List Value} (h3 : f l1 = .inr (12, fs2)) (h4 : l1 < n) (h5 : 3 < fs2.length) (h7 : (va_up f l1 (.inr (12, fs2.set 3 (.int (-1))))) l1 = .inr (12, fs6)) (h8 : l1 < n) (h9 : 4 < fs6.length) (h11 : ¬ 8200 < (0 : Int32) ∧ Int32.toNatClampNeg 8200 = m10 ∧ m10 ≤ 1000000) (h12 : n + 1 ≤ mi_NC ∧ sl + m10 ≤ mi_NS) (h14 : (va_up (va_up (va_up f l1 (.inr (12, fs2.set 3 (.int (-1))))) l1 (.inr (12, fs6.set 4 (.int (-1))))) n (.inl (0, m10, .inl (fun _ => 0)))) l1 = .inr (12, fs13)) (h15 : l1 < (n + 1)) (h16 : 5 < fs13.length) (h18 : ¬ 8192 < (0 : Int32) ∧ Int32.toNatClampNeg 8192 = m17 ∧ m17 ≤ 1000000) (h19 : (n + 1) + 1 ≤ mi_NC ∧ (sl + m10) + m17 ≤ mi_NS) (h21 : (va_up (va_up (va_up (va_up (va_up f l1 (.inr (12, fs2.set 3 (.int (-1))))) l1 (.inr (12, fs6.set 4 (.int (-1))))) n (.inl (0, m10, .inl (fun _ => 0)))) l1 (.inr (12, fs13.set 5 (.ref n)))) (n + 1) (.inl (0, m17, .inl (fun _ => 0)))) l1 = .inr (12, fs20)) (h22 : l1 < ((n + 1) + 1)) (h23 : 6 < fs20.length) (h24 : mi_W d 134 32 [some (.ref l1)] [] (((n + 1) + 1), ((sl + m10) + m17), (va_up (va_up (va_up (va_up (va_up (va_up f l1 (.inr (12, fs2.set 3 (.int (-1))))) l1 (.inr (12, fs6.set 4 (.int (-1))))) n (.inl (0, m10, .inl (fun _ => 0)))) l1 (.inr (12, fs13.set 5 (.ref n)))) (n + 1) (.inl (0, m17, .inl (fun _ => 0)))) l1 (.inr (12, fs20.set 6 (.ref (n + 1)))))) Q) : mi_W d 134 0 [some (.ref l1)] [] (n, sl, f) Q := by
  refine w_aload_n cd_134_0 rfl ?_
  refine w_oinit cd_134_1 (by decide) (Nat.le_of_ble_eq_true rfl) ?_
  refine w_aload_n cd_134_4 rfl ?_
  refine w_iconst (v := (-1)) cd_134_5 (by decide) ?_
  refine w_putfield (w := .int (-1)) cd_134_6 (show mt_f 12 7 = some (12, 3) by decide +kernel) h3 h4 ⟨h5, rfl, Or.inl (by decide)⟩ ?_
  refine w_aload_n cd_134_9 rfl ?_
  refine w_iconst (v := (-1)) cd_134_10 (by decide) ?_
  refine w_putfield (w := .int (-1)) cd_134_11 (show mt_f 12 13 = some (12, 4) by decide +kernel) h7 h8 ⟨h9, rfl, Or.inl (by decide)⟩ ?_
  refine w_aload_n cd_134_14 rfl ?_
  refine w_sipush (v := 8200) cd_134_15 (by decide) ?_
  refine w_newarray cd_134_18 rfl h11 h12 ?_
  refine w_putfield (w := .ref n) cd_134_20 (show mt_f 12 16 = some (12, 5) by decide +kernel) h14 h15 ⟨h16, rfl, Or.inr (by decide +kernel)⟩ ?_
  refine w_aload_n cd_134_23 rfl ?_
  refine w_sipush (v := 8192) cd_134_24 (by decide) ?_
  refine w_newarray cd_134_27 rfl h18 h19 ?_
  refine w_putfield (w := .ref (n + 1)) cd_134_29 (show mt_f 12 20 = some (12, 6) by decide +kernel) h21 h22 ⟨h23, rfl, Or.inr (by decide +kernel)⟩ ?_
  exact h24
theorem b_134_32 {d : Nat} {Q : (Option Value ⊕ Nat) → mi_H → Prop} (n sl : Nat) (f : Nat → mi_C) {l1 : Nat} {m2 : Nat} (m5 i5 : Nat) (g5 : Nat → Option Nat) (m10 i10 : Nat) (g10 : Nat → Option Nat) (m15 i15 : Nat) (g15 : Nat → Option Nat) (m20 i20 : Nat) (g20 : Nat → Option Nat) (m25 i25 : Nat) (g25 : Nat → Option Nat) (m30 i30 : Nat) (g30 : Nat → Option Nat) (m35 i35 : Nat) (g35 : Nat → Option Nat) (m40 i40 : Nat) (g40 : Nat → Option Nat) (m45 i45 : Nat) (g45 : Nat → Option Nat) (m50 i50 : Nat) (g50 : Nat → Option Nat) (m55 i55 : Nat) (g55 : Nat → Option Nat) (m60 i60 : Nat) (g60 : Nat → Option Nat) (m65 i65 : Nat) (g65 : Nat → Option Nat) (m70 i70 : Nat) (g70 : Nat → Option Nat) (m75 i75 : Nat) (g75 : Nat → Option Nat) (m80 i80 : Nat) (g80 : Nat → Option Nat) (m85 i85 : Nat) (g85 : Nat → Option Nat) (m90 i90 : Nat) (g90 : Nat → Option Nat) (m95 i95 : Nat) (g95 : Nat → Option Nat) (m100 i100 : Nat) (g100 : Nat → Option Nat) (m105 i105 : Nat) (g105 : Nat → Option Nat) (m110 i110 : Nat) (g110 : Nat → Option Nat) (m115 i115 : Nat) (g115 : Nat → Option Nat) (m120 i120 : Nat) (g120 : Nat → Option Nat) {fs125 : List Value} (h3 : ¬ 24 < (0 : Int32) ∧ Int32.toNatClampNeg 24 = m2 ∧ m2 ≤ 1000000) (h4 : n + 1 ≤ mi_NC ∧ sl + m2 ≤ mi_NS) (h6 : n < (n + 1)) (h7 : mi_ix 0 m5 i5) (h8 : (va_up f n (.inl (5, m2, .inr (.inr (.inr (.inr (fun _ => none))))))) n = .inl (5, m5, .inr (.inr (.inr (.inr g5))))) (h9 : (n + 1) ≤ mi_SC) (h11 : n < (n + 1)) (h12 : mi_ix 1 m10 i10) (h13 : (va_up (va_up f n (.inl (5, m2, .inr (.inr (.inr (.inr (fun _ => none))))))) n (.inl (5, m5, .inr (.inr (.inr (.inr (va_up g5 i5 (some (mi_SC + 1 + 2 * 16))))))))) n = .inl (5, m10, .inr (.inr (.inr (.inr g10))))) (h14 : (n + 1) ≤ mi_SC) (h16 : n < (n + 1)) (h17 : mi_ix 2 m15 i15) (h18 : (va_up (va_up (va_up f n (.inl (5, m2, .inr (.inr (.inr (.inr (fun _ => none))))))) n (.inl (5, m5, .inr (.inr (.inr (.inr (va_up g5 i5 (some (mi_SC + 1 + 2 * 16))))))))) n (.inl (5, m10, .inr (.inr (.inr (.inr (va_up g10 i10 (some (mi_SC + 1 + 2 * 17))))))))) n = .inl (5, m15, .inr (.inr (.inr (.inr g15))))) (h19 : (n + 1) ≤ mi_SC) (h21 : n < (n + 1)) (h22 : mi_ix 3 m20 i20) (h23 : (va_up (va_up (va_up (va_up f n (.inl (5, m2, .inr (.inr (.inr (.inr (fun _ => none))))))) n (.inl (5, m5, .inr (.inr (.inr (.inr (va_up g5 i5 (some (mi_SC + 1 + 2 * 16))))))))) n (.inl (5, m10, .inr (.inr (.inr (.inr (va_up g10 i10 (some (mi_SC + 1 + 2 * 17))))))))) n (.inl (5, m15, .inr (.inr (.inr (.inr (va_up g15 i15 (some (mi_SC + 1 + 2 * 18))))))))) n = .inl (5, m20, .inr (.inr (.inr (.inr g20))))) (h24 : (n + 1) ≤ mi_SC) (h26 : n < (n + 1)) (h27 : mi_ix 4 m25 i25) (h28 : (va_up (va_up (va_up (va_up (va_up f n (.inl (5, m2, .inr (.inr (.inr (.inr (fun _ => none))))))) n (.inl (5, m5, .inr (.inr (.inr (.inr (va_up g5 i5 (some (mi_SC + 1 + 2 * 16))))))))) n (.inl (5, m10, .inr (.inr (.inr (.inr (va_up g10 i10 (some (mi_SC + 1 + 2 * 17))))))))) n (.inl (5, m15, .inr (.inr (.inr (.inr (va_up g15 i15 (some (mi_SC + 1 + 2 * 18))))))))) n (.inl (5, m20, .inr (.inr (.inr (.inr (va_up g20 i20 (some (mi_SC + 1 + 2 * 19))))))))) n = .inl (5, m25, .inr (.inr (.inr (.inr g25))))) (h29 : (n + 1) ≤ mi_SC) (h31 : n < (n + 1)) (h32 : mi_ix 5 m30 i30) (h33 : (va_up (va_up (va_up (va_up (va_up (va_up f n (.inl (5, m2, .inr (.inr (.inr (.inr (fun _ => none))))))) n (.inl (5, m5, .inr (.inr (.inr (.inr (va_up g5 i5 (some (mi_SC + 1 + 2 * 16))))))))) n (.inl (5, m10, .inr (.inr (.inr (.inr (va_up g10 i10 (some (mi_SC + 1 + 2 * 17))))))))) n (.inl (5, m15, .inr (.inr (.inr (.inr (va_up g15 i15 (some (mi_SC + 1 + 2 * 18))))))))) n (.inl (5, m20, .inr (.inr (.inr (.inr (va_up g20 i20 (some (mi_SC + 1 + 2 * 19))))))))) n (.inl (5, m25, .inr (.inr (.inr (.inr (va_up g25 i25 (some (mi_SC + 1 + 2 * 20))))))))) n = .inl (5, m30, .inr (.inr (.inr (.inr g30))))) (h34 : (n + 1) ≤ mi_SC) (h36 : n < (n + 1)) (h37 : mi_ix 6 m35 i35) (h38 : (va_up (va_up (va_up (va_up (va_up (va_up (va_up f n (.inl (5, m2, .inr (.inr (.inr (.inr (fun _ => none))))))) n (.inl (5, m5, .inr (.inr (.inr (.inr (va_up g5 i5 (some (mi_SC + 1 + 2 * 16))))))))) n (.inl (5, m10, .inr (.inr (.inr (.inr (va_up g10 i10 (some (mi_SC + 1 + 2 * 17))))))))) n (.inl (5, m15, .inr (.inr (.inr (.inr (va_up g15 i15 (some (mi_SC + 1 + 2 * 18))))))))) n (.inl (5, m20, .inr (.inr (.inr (.inr (va_up g20 i20 (some (mi_SC + 1 + 2 * 19))))))))) n (.inl (5, m25, .inr (.inr (.inr (.inr (va_up g25 i25 (some (mi_SC + 1 + 2 * 20))))))))) n (.inl (5, m30, .inr (.inr (.inr (.inr (va_up g30 i30 (some (mi_SC + 1 + 2 * 21))))))))) n = .inl (5, m35, .inr (.inr (.inr (.inr g35))))) (h39 : (n + 1) ≤ mi_SC) (h41 : n < (n + 1)) (h42 : mi_ix 7 m40 i40) (h43 : (va_up (va_up (va_up (va_up (va_up (va_up (va_up (va_up f n (.inl (5, m2, .inr (.inr (.inr (.inr (fun _ => none))))))) n (.inl (5, m5, .inr (.inr (.inr (.inr (va_up g5 i5 (some (mi_SC + 1 + 2 * 16))))))))) n (.inl (5, m10, .inr (.inr (.inr (.inr (va_up g10 i10 (some (mi_SC + 1 + 2 * 17))))))))) n (.inl (5, m15, .inr (.inr (.inr (.inr (va_up g15 i15 (some (mi_SC + 1 + 2 * 18))))))))) n (.inl (5, m20, .inr (.inr (.inr (.inr (va_up g20 i20 (some (mi_SC + 1 + 2 * 19))))))))) n (.inl (5, m25, .inr (.inr (.inr (.inr (va_up g25 i25 (some (mi_SC + 1 + 2 * 20))))))))) n (.inl (5, m30, .inr (.inr (.inr (.inr (va_up g30 i30 (some (mi_SC + 1 + 2 * 21))))))))) n (.inl (5, m35, .inr (.inr (.inr (.inr (va_up g35 i35 (some (mi_SC + 1 + 2 * 22))))))))) n = .inl (5, m40, .inr (.inr (.inr (.inr g40))))) (h44 : (n + 1) ≤ mi_SC) (h46 : n < (n + 1)) (h47 : mi_ix 8 m45 i45) (h48 : (va_up (va_up (va_up (va_up (va_up (va_up (va_up (va_up (va_up f n (.inl (5, m2, .inr (.inr (.inr (.inr (fun _ => none))))))) n (.inl (5, m5, .inr (.inr (.inr (.inr (va_up g5 i5 (some (mi_SC + 1 + 2 * 16))))))))) n (.inl (5, m10, .inr (.inr (.inr (.inr (va_up g10 i10 (some (mi_SC + 1 + 2 * 17))))))))) n (.inl (5, m15, .inr (.inr (.inr (.inr (va_up g15 i15 (some (mi_SC + 1 + 2 * 18))))))))) n (.inl (5, m20, .inr (.inr (.inr (.inr (va_up g20 i20 (some (mi_SC + 1 + 2 * 19))))))))) n (.inl (5, m25, .inr (.inr (.inr (.inr (va_up g25 i25 (some (mi_SC + 1 + 2 * 20))))))))) n (.inl (5, m30, .inr (.inr (.inr (.inr (va_up g30 i30 (some (mi_SC + 1 + 2 * 21))))))))) n (.inl (5, m35, .inr (.inr (.inr (.inr (va_up g35 i35 (some (mi_SC + 1 + 2 * 22))))))))) n (.inl (5, m40, .inr (.inr (.inr (.inr (va_up g40 i40 (some (mi_SC + 1 + 2 * 23))))))))) n = .inl (5, m45, .inr (.inr (.inr (.inr g45))))) (h49 : (n + 1) ≤ mi_SC) (h51 : n < (n + 1)) (h52 : mi_ix 9 m50 i50) (h53 : (va_up (va_up (va_up (va_up (va_up (va_up (va_up (va_up (va_up (va_up f n (.inl (5, m2, .inr (.inr (.inr (.inr (fun _ => none))))))) n (.inl (5, m5, .inr (.inr (.inr (.inr (va_up g5 i5 (some (mi_SC + 1 + 2 * 16))))))))) n (.inl (5, m10, .inr (.inr (.inr (.inr (va_up g10 i10 (some (mi_SC + 1 + 2 * 17))))))))) n (.inl (5, m15, .inr (.inr (.inr (.inr (va_up g15 i15 (some (mi_SC + 1 + 2 * 18))))))))) n (.inl (5, m20, .inr (.inr (.inr (.inr (va_up g20 i20 (some (mi_SC + 1 + 2 * 19))))))))) n (.inl (5, m25, .inr (.inr (.inr (.inr (va_up g25 i25 (some (mi_SC + 1 + 2 * 20))))))))) n (.inl (5, m30, .inr (.inr (.inr (.inr (va_up g30 i30 (some (mi_SC + 1 + 2 * 21))))))))) n (.inl (5, m35, .inr (.inr (.inr (.inr (va_up g35 i35 (some (mi_SC + 1 + 2 * 22))))))))) n (.inl (5, m40, .inr (.inr (.inr (.inr (va_up g40 i40 (some (mi_SC + 1 + 2 * 23))))))))) n (.inl (5, m45, .inr (.inr (.inr (.inr (va_up g45 i45 (some (mi_SC + 1 + 2 * 24))))))))) n = .inl (5, m50, .inr (.inr (.inr (.inr g50))))) (h54 : (n + 1) ≤ mi_SC) (h56 : n < (n + 1)) (h57 : mi_ix 10 m55 i55) (h58 : (va_up (va_up (va_up (va_up (va_up (va_up (va_up (va_up (va_up (va_up (va_up f n (.inl (5, m2, .inr (.inr (.inr (.inr (fun _ => none))))))) n (.inl (5, m5, .inr (.inr (.inr (.inr (va_up g5 i5 (some (mi_SC + 1 + 2 * 16))))))))) n (.inl (5, m10, .inr (.inr (.inr (.inr (va_up g10 i10 (some (mi_SC + 1 + 2 * 17))))))))) n (.inl (5, m15, .inr (.inr (.inr (.inr (va_up g15 i15 (some (mi_SC + 1 + 2 * 18))))))))) n (.inl (5, m20, .inr (.inr (.inr (.inr (va_up g20 i20 (some (mi_SC + 1 + 2 * 19))))))))) n (.inl (5, m25, .inr (.inr (.inr (.inr (va_up g25 i25 (some (mi_SC + 1 + 2 * 20))))))))) n (.inl (5, m30, .inr (.inr (.inr (.inr (va_up g30 i30 (some (mi_SC + 1 + 2 * 21))))))))) n (.inl (5, m35, .inr (.inr (.inr (.inr (va_up g35 i35 (some (mi_SC + 1 + 2 * 22))))))))) n (.inl (5, m40, .inr (.inr (.inr (.inr (va_up g40 i40 (some (mi_SC + 1 + 2 * 23))))))))) n (.inl (5, m45, .inr (.inr (.inr (.inr (va_up g45 i45 (some (mi_SC + 1 + 2 * 24))))))))) n (.inl (5, m50, .inr (.inr (.inr (.inr (va_up g50 i50 (some (mi_SC + 1 + 2 * 25))))))))) n = .inl (5, m55, .inr (.inr (.inr (.inr g55))))) (h59 : (n + 1) ≤ mi_SC) (h61 : n < (n + 1)) (h62 : mi_ix 11 m60 i60) (h63 : (va_up (va_up (va_up (va_up (va_up (va_up (va_up (va_up (va_up (va_up (va_up (va_up f n (.inl (5, m2, .inr (.inr (.inr (.inr (fun _ => none))))))) n (.inl (5, m5, .inr (.inr (.inr (.inr (va_up g5 i5 (some (mi_SC + 1 + 2 * 16))))))))) n (.inl (5, m10, .inr (.inr (.inr (.inr (va_up g10 i10 (some (mi_SC + 1 + 2 * 17))))))))) n (.inl (5, m15, .inr (.inr (.inr (.inr (va_up g15 i15 (some (mi_SC + 1 + 2 * 18))))))))) n (.inl (5, m20, .inr (.inr (.inr (.inr (va_up g20 i20 (some (mi_SC + 1 + 2 * 19))))))))) n (.inl (5, m25, .inr (.inr (.inr (.inr (va_up g25 i25 (some (mi_SC + 1 + 2 * 20))))))))) n (.inl (5, m30, .inr (.inr (.inr (.inr (va_up g30 i30 (some (mi_SC + 1 + 2 * 21))))))))) n (.inl (5, m35, .inr (.inr (.inr (.inr (va_up g35 i35 (some (mi_SC + 1 + 2 * 22))))))))) n (.inl (5, m40, .inr (.inr (.inr (.inr (va_up g40 i40 (some (mi_SC + 1 + 2 * 23))))))))) n (.inl (5, m45, .inr (.inr (.inr (.inr (va_up g45 i45 (some (mi_SC + 1 + 2 * 24))))))))) n (.inl (5, m50, .inr (.inr (.inr (.inr (va_up g50 i50 (some (mi_SC + 1 + 2 * 25))))))))) n (.inl (5, m55, .inr (.inr (.inr (.inr (va_up g55 i55 (some (mi_SC + 1 + 2 * 26))))))))) n = .inl (5, m60, .inr (.inr (.inr (.inr g60))))) (h64 : (n + 1) ≤ mi_SC) (h66 : n < (n + 1)) (h67 : mi_ix 12 m65 i65) (h68 : (va_up (va_up (va_up (va_up (va_up (va_up (va_up (va_up (va_up (va_up (va_up (va_up (va_up f n (.inl (5, m2, .inr (.inr (.inr (.inr (fun _ => none))))))) n (.inl (5, m5, .inr (.inr (.inr (.inr (va_up g5 i5 (some (mi_SC + 1 + 2 * 16))))))))) n (.inl (5, m10, .inr (.inr (.inr (.inr (va_up g10 i10 (some (mi_SC + 1 + 2 * 17))))))))) n (.inl (5, m15, .inr (.inr (.inr (.inr (va_up g15 i15 (some (mi_SC + 1 + 2 * 18))))))))) n (.inl (5, m20, .inr (.inr (.inr (.inr (va_up g20 i20 (some (mi_SC + 1 + 2 * 19))))))))) n (.inl (5, m25, .inr (.inr (.inr (.inr (va_up g25 i25 (some (mi_SC + 1 + 2 * 20))))))))) n (.inl (5, m30, .inr (.inr (.inr (.inr (va_up g30 i30 (some (mi_SC + 1 + 2 * 21))))))))) n (.inl (5, m35, .inr (.inr (.inr (.inr (va_up g35 i35 (some (mi_SC + 1 + 2 * 22))))))))) n (.inl (5, m40, .inr (.inr (.inr (.inr (va_up g40 i40 (some (mi_SC + 1 + 2 * 23))))))))) n (.inl (5, m45, .inr (.inr (.inr (.inr (va_up g45 i45 (some (mi_SC + 1 + 2 * 24))))))))) n (.inl (5, m50, .inr (.inr (.inr (.inr (va_up g50 i50 (some (mi_SC + 1 + 2 * 25))))))))) n (.inl (5, m55, .inr (.inr (.inr (.inr (va_up g55 i55 (some (mi_SC + 1 + 2 * 26))))))))) n (.inl (5, m60, .inr (.inr (.inr (.inr (va_up g60 i60 (some (mi_SC + 1 + 2 * 27))))))))) n = .inl (5, m65, .inr (.inr (.inr (.inr g65))))) (h69 : (n + 1) ≤ mi_SC) (h71 : n < (n + 1)) (h72 : mi_ix 13 m70 i70) (h73 : (va_up (va_up (va_up (va_up (va_up (va_up (va_up (va_up (va_up (va_up (va_up (va_up (va_up (va_up f n (.inl (5, m2, .inr (.inr (.inr (.inr (fun _ => none))))))) n (.inl (5, m5, .inr (.inr (.inr (.inr (va_up g5 i5 (some (mi_SC + 1 + 2 * 16))))))))) n (.inl (5, m10, .inr (.inr (.inr (.inr (va_up g10 i10 (some (mi_SC + 1 + 2 * 17))))))))) n (.inl (5, m15, .inr (.inr (.inr (.inr (va_up g15 i15 (some (mi_SC + 1 + 2 * 18))))))))) n (.inl (5, m20, .inr (.inr (.inr (.inr (va_up g20 i20 (some (mi_SC + 1 + 2 * 19))))))))) n (.inl (5, m25, .inr (.inr (.inr (.inr (va_up g25 i25 (some (mi_SC + 1 + 2 * 20))))))))) n (.inl (5, m30, .inr (.inr (.inr (.inr (va_up g30 i30 (some (mi_SC + 1 + 2 * 21))))))))) n (.inl (5, m35, .inr (.inr (.inr (.inr (va_up g35 i35 (some (mi_SC + 1 + 2 * 22))))))))) n (.inl (5, m40, .inr (.inr (.inr (.inr (va_up g40 i40 (some (mi_SC + 1 + 2 * 23))))))))) n (.inl (5, m45, .inr (.inr (.inr (.inr (va_up g45 i45 (some (mi_SC + 1 + 2 * 24))))))))) n (.inl (5, m50, .inr (.inr (.inr (.inr (va_up g50 i50 (some (mi_SC + 1 + 2 * 25))))))))) n (.inl (5, m55, .inr (.inr (.inr (.inr (va_up g55 i55 (some (mi_SC + 1 + 2 * 26))))))))) n (.inl (5, m60, .inr (.inr (.inr (.inr (va_up g60 i60 (some (mi_SC + 1 + 2 * 27))))))))) n (.inl (5, m65, .inr (.inr (.inr (.inr (va_up g65 i65 (some (mi_SC + 1 + 2 * 28))))))))) n = .inl (5, m70, .inr (.inr (.inr (.inr g70))))) (h74 : (n + 1) ≤ mi_SC) (h76 : n < (n + 1)) (h77 : mi_ix 14 m75 i75) (h78 : (va_up (va_up (va_up (va_up (va_up (va_up (va_up (va_up (va_up (va_up (va_up (va_up (va_up (va_up (va_up f n (.inl (5, m2, .inr (.inr (.inr (.inr (fun _ => none))))))) n (.inl (5, m5, .inr (.inr (.inr (.inr (va_up g5 i5 (some (mi_SC + 1 + 2 * 16))))))))) n (.inl (5, m10, .inr (.inr (.inr (.inr (va_up g10 i10 (some (mi_SC + 1 + 2 * 17))))))))) n (.inl (5, m15, .inr (.inr (.inr (.inr (va_up g15 i15 (some (mi_SC + 1 + 2 * 18))))))))) n (.inl (5, m20, .inr (.inr (.inr (.inr (va_up g20 i20 (some (mi_SC + 1 + 2 * 19))))))))) n (.inl (5, m25, .inr (.inr (.inr (.inr (va_up g25 i25 (some (mi_SC + 1 + 2 * 20))))))))) n (.inl (5, m30, .inr (.inr (.inr (.inr (va_up g30 i30 (some (mi_SC + 1 + 2 * 21))))))))) n (.inl (5, m35, .inr (.inr (.inr (.inr (va_up g35 i35 (some (mi_SC + 1 + 2 * 22))))))))) n (.inl (5, m40, .inr (.inr (.inr (.inr (va_up g40 i40 (some (mi_SC + 1 + 2 * 23))))))))) n (.inl (5, m45, .inr (.inr (.inr (.inr (va_up g45 i45 (some (mi_SC + 1 + 2 * 24))))))))) n (.inl (5, m50, .inr (.inr (.inr (.inr (va_up g50 i50 (some (mi_SC + 1 + 2 * 25))))))))) n (.inl (5, m55, .inr (.inr (.inr (.inr (va_up g55 i55 (some (mi_SC + 1 + 2 * 26))))))))) n (.inl (5, m60, .inr (.inr (.inr (.inr (va_up g60 i60 (some (mi_SC + 1 + 2 * 27))))))))) n (.inl (5, m65, .inr (.inr (.inr (.inr (va_up g65 i65 (some (mi_SC + 1 + 2 * 28))))))))) n (.inl (5, m70, .inr (.inr (.inr (.inr (va_up g70 i70 (some (mi_SC + 1 + 2 * 29))))))))) n = .inl (5, m75, .inr (.inr (.inr (.inr g75))))) (h79 : (n + 1) ≤ mi_SC) (h81 : n < (n + 1)) (h82 : mi_ix 15 m80 i80) (h83 : (va_up (va_up (va_up (va_up (va_up (va_up (va_up (va_up (va_up (va_up (va_up (va_up (va_up (va_up (va_up (va_up f n (.inl (5, m2, .inr (.inr (.inr (.inr (fun _ => none))))))) n (.inl (5, m5, .inr (.inr (.inr (.inr (va_up g5 i5 (some (mi_SC + 1 + 2 * 16))))))))) n (.inl (5, m10, .inr (.inr (.inr (.inr (va_up g10 i10 (some (mi_SC + 1 + 2 * 17))))))))) n (.inl (5, m15, .inr (.inr (.inr (.inr (va_up g15 i15 (some (mi_SC + 1 + 2 * 18))))))))) n (.inl (5, m20, .inr (.inr (.inr (.inr (va_up g20 i20 (some (mi_SC + 1 + 2 * 19))))))))) n (.inl (5, m25, .inr (.inr (.inr (.inr (va_up g25 i25 (some (mi_SC + 1 + 2 * 20))))))))) n (.inl (5, m30, .inr (.inr (.inr (.inr (va_up g30 i30 (some (mi_SC + 1 + 2 * 21))))))))) n (.inl (5, m35, .inr (.inr (.inr (.inr (va_up g35 i35 (some (mi_SC + 1 + 2 * 22))))))))) n (.inl (5, m40, .inr (.inr (.inr (.inr (va_up g40 i40 (some (mi_SC + 1 + 2 * 23))))))))) n (.inl (5, m45, .inr (.inr (.inr (.inr (va_up g45 i45 (some (mi_SC + 1 + 2 * 24))))))))) n (.inl (5, m50, .inr (.inr (.inr (.inr (va_up g50 i50 (some (mi_SC + 1 + 2 * 25))))))))) n (.inl (5, m55, .inr (.inr (.inr (.inr (va_up g55 i55 (some (mi_SC + 1 + 2 * 26))))))))) n (.inl (5, m60, .inr (.inr (.inr (.inr (va_up g60 i60 (some (mi_SC + 1 + 2 * 27))))))))) n (.inl (5, m65, .inr (.inr (.inr (.inr (va_up g65 i65 (some (mi_SC + 1 + 2 * 28))))))))) n (.inl (5, m70, .inr (.inr (.inr (.inr (va_up g70 i70 (some (mi_SC + 1 + 2 * 29))))))))) n (.inl (5, m75, .inr (.inr (.inr (.inr (va_up g75 i75 (some (mi_SC + 1 + 2 * 30))))))))) n = .inl (5, m80, .inr (.inr (.inr (.inr g80))))) (h84 : (n + 1) ≤ mi_SC) (h86 : n < (n + 1)) (h87 : mi_ix 16 m85 i85) (h88 : (va_up (va_up (va_up (va_up (va_up (va_up (va_up (va_up (va_up (va_up (va_up (va_up (va_up (va_up (va_up (va_up (va_up f n (.inl (5, m2, .inr (.inr (.inr (.inr (fun _ => none))))))) n (.inl (5, m5, .inr (.inr (.inr (.inr (va_up g5 i5 (some (mi_SC + 1 + 2 * 16))))))))) n (.inl (5, m10, .inr (.inr (.inr (.inr (va_up g10 i10 (some (mi_SC + 1 + 2 * 17))))))))) n (.inl (5, m15, .inr (.inr (.inr (.inr (va_up g15 i15 (some (mi_SC + 1 + 2 * 18))))))))) n (.inl (5, m20, .inr (.inr (.inr (.inr (va_up g20 i20 (some (mi_SC + 1 + 2 * 19))))))))) n (.inl (5, m25, .inr (.inr (.inr (.inr (va_up g25 i25 (some (mi_SC + 1 + 2 * 20))))))))) n (.inl (5, m30, .inr (.inr (.inr (.inr (va_up g30 i30 (some (mi_SC + 1 + 2 * 21))))))))) n (.inl (5, m35, .inr (.inr (.inr (.inr (va_up g35 i35 (some (mi_SC + 1 + 2 * 22))))))))) n (.inl (5, m40, .inr (.inr (.inr (.inr (va_up g40 i40 (some (mi_SC + 1 + 2 * 23))))))))) n (.inl (5, m45, .inr (.inr (.inr (.inr (va_up g45 i45 (some (mi_SC + 1 + 2 * 24))))))))) n (.inl (5, m50, .inr (.inr (.inr (.inr (va_up g50 i50 (some (mi_SC + 1 + 2 * 25))))))))) n (.inl (5, m55, .inr (.inr (.inr (.inr (va_up g55 i55 (some (mi_SC + 1 + 2 * 26))))))))) n (.inl (5, m60, .inr (.inr (.inr (.inr (va_up g60 i60 (some (mi_SC + 1 + 2 * 27))))))))) n (.inl (5, m65, .inr (.inr (.inr (.inr (va_up g65 i65 (some (mi_SC + 1 + 2 * 28))))))))) n (.inl (5, m70, .inr (.inr (.inr (.inr (va_up g70 i70 (some (mi_SC + 1 + 2 * 29))))))))) n (.inl (5, m75, .inr (.inr (.inr (.inr (va_up g75 i75 (some (mi_SC + 1 + 2 * 30))))))))) n (.inl (5, m80, .inr (.inr (.inr (.inr (va_up g80 i80 (some (mi_SC + 1 + 2 * 31))))))))) n = .inl (5, m85, .inr (.inr (.inr (.inr g85))))) (h89 : (n + 1) ≤ mi_SC) (h91 : n < (n + 1)) (h92 : mi_ix 17 m90 i90) (h93 : (va_up (va_up (va_up (va_up (va_up (va_up (va_up (va_up (va_up (va_up (va_up (va_up (va_up (va_up (va_up (va_up (va_up (va_up f n (.inl (5, m2, .inr (.inr (.inr (.inr (fun _ => none))))))) n (.inl (5, m5, .inr (.inr (.inr (.inr (va_up g5 i5 (some (mi_SC + 1 + 2 * 16))))))))) n (.inl (5, m10, .inr (.inr (.inr (.inr (va_up g10 i10 (some (mi_SC + 1 + 2 * 17))))))))) n (.inl (5, m15, .inr (.inr (.inr (.inr (va_up g15 i15 (some (mi_SC + 1 + 2 * 18))))))))) n (.inl (5, m20, .inr (.inr (.inr (.inr (va_up g20 i20 (some (mi_SC + 1 + 2 * 19))))))))) n (.inl (5, m25, .inr (.inr (.inr (.inr (va_up g25 i25 (some (mi_SC + 1 + 2 * 20))))))))) n (.inl (5, m30, .inr (.inr (.inr (.inr (va_up g30 i30 (some (mi_SC + 1 + 2 * 21))))))))) n (.inl (5, m35, .inr (.inr (.inr (.inr (va_up g35 i35 (some (mi_SC + 1 + 2 * 22))))))))) n (.inl (5, m40, .inr (.inr (.inr (.inr (va_up g40 i40 (some (mi_SC + 1 + 2 * 23))))))))) n (.inl (5, m45, .inr (.inr (.inr (.inr (va_up g45 i45 (some (mi_SC + 1 + 2 * 24))))))))) n (.inl (5, m50, .inr (.inr (.inr (.inr (va_up g50 i50 (some (mi_SC + 1 + 2 * 25))))))))) n (.inl (5, m55, .inr (.inr (.inr (.inr (va_up g55 i55 (some (mi_SC + 1 + 2 * 26))))))))) n (.inl (5, m60, .inr (.inr (.inr (.inr (va_up g60 i60 (some (mi_SC + 1 + 2 * 27))))))))) n (.inl (5, m65, .inr (.inr (.inr (.inr (va_up g65 i65 (some (mi_SC + 1 + 2 * 28))))))))) n (.inl (5, m70, .inr (.inr (.inr (.inr (va_up g70 i70 (some (mi_SC + 1 + 2 * 29))))))))) n (.inl (5, m75, .inr (.inr (.inr (.inr (va_up g75 i75 (some (mi_SC + 1 + 2 * 30))))))))) n (.inl (5, m80, .inr (.inr (.inr (.inr (va_up g80 i80 (some (mi_SC + 1 + 2 * 31))))))))) n (.inl (5, m85, .inr (.inr (.inr (.inr (va_up g85 i85 (some (mi_SC + 1 + 2 * 32))))))))) n = .inl (5, m90, .inr (.inr (.inr (.inr g90))))) (h94 : (n + 1) ≤ mi_SC) (h96 : n < (n + 1)) (h97 : mi_ix 18 m95 i95) (h98 : (va_up (va_up (va_up (va_up (va_up (va_up (va_up (va_up (va_up (va_up (va_up (va_up (va_up (va_up (va_up (va_up (va_up (va_up (va_up f n (.inl (5, m2, .inr (.inr (.inr (.inr (fun _ => none))))))) n (.inl (5, m5, .inr (.inr (.inr (.inr (va_up g5 i5 (some (mi_SC + 1 + 2 * 16))))))))) n (.inl (5, m10, .inr (.inr (.inr (.inr (va_up g10 i10 (some (mi_SC + 1 + 2 * 17))))))))) n (.inl (5, m15, .inr (.inr (.inr (.inr (va_up g15 i15 (some (mi_SC + 1 + 2 * 18))))))))) n (.inl (5, m20, .inr (.inr (.inr (.inr (va_up g20 i20 (some (mi_SC + 1 + 2 * 19))))))))) n (.inl (5, m25, .inr (.inr (.inr (.inr (va_up g25 i25 (some (mi_SC + 1 + 2 * 20))))))))) n (.inl (5, m30, .inr (.inr (.inr (.inr (va_up g30 i30 (some (mi_SC + 1 + 2 * 21))))))))) n (.inl (5, m35, .inr (.inr (.inr (.inr (va_up g35 i35 (some (mi_SC + 1 + 2 * 22))))))))) n (.inl (5, m40, .inr (.inr (.inr (.inr (va_up g40 i40 (some (mi_SC + 1 + 2 * 23))))))))) n (.inl (5, m45, .inr (.inr (.inr (.inr (va_up g45 i45 (some (mi_SC + 1 + 2 * 24))))))))) n (.inl (5, m50, .inr (.inr (.inr (.inr (va_up g50 i50 (some (mi_SC + 1 + 2 * 25))))))))) n (.inl (5, m55, .inr (.inr (.inr (.inr (va_up g55 i55 (some (mi_SC + 1 + 2 * 26))))))))) n (.inl (5, m60, .inr (.inr (.inr (.inr (va_up g60 i60 (some (mi_SC + 1 + 2 * 27))))))))) n (.inl (5, m65, .inr (.inr (.inr (.inr (va_up g65 i65 (some (mi_SC + 1 + 2 * 28))))))))) n (.inl (5, m70, .inr (.inr (.inr (.inr (va_up g70 i70 (some (mi_SC + 1 + 2 * 29))))))))) n (.inl (5, m75, .inr (.inr (.inr (.inr (va_up g75 i75 (some (mi_SC + 1 + 2 * 30))))))))) n (.inl (5, m80, .inr (.inr (.inr (.inr (va_up g80 i80 (some (mi_SC + 1 + 2 * 31))))))))) n (.inl (5, m85, .inr (.inr (.inr (.inr (va_up g85 i85 (some (mi_SC + 1 + 2 * 32))))))))) n (.inl (5, m90, .inr (.inr (.inr (.inr (va_up g90 i90 (some (mi_SC + 1 + 2 * 33))))))))) n = .inl (5, m95, .inr (.inr (.inr (.inr g95))))) (h99 : (n + 1) ≤ mi_SC) (h101 : n < (n + 1)) (h102 : mi_ix 19 m100 i100) (h103 : (va_up (va_up (va_up (va_up (va_up (va_up (va_up (va_up (va_up (va_up (va_up (va_up (va_up (va_up (va_up (va_up (va_up (va_up (va_up (va_up f n (.inl (5, m2, .inr (.inr (.inr (.inr (fun _ => none))))))) n (.inl (5, m5, .inr (.inr (.inr (.inr (va_up g5 i5 (some (mi_SC + 1 + 2 * 16))))))))) n (.inl (5, m10, .inr (.inr (.inr (.inr (va_up g10 i10 (some (mi_SC + 1 + 2 * 17))))))))) n (.inl (5, m15, .inr (.inr (.inr (.inr (va_up g15 i15 (some (mi_SC + 1 + 2 * 18))))))))) n (.inl (5, m20, .inr (.inr (.inr (.inr (va_up g20 i20 (some (mi_SC + 1 + 2 * 19))))))))) n (.inl (5, m25, .inr (.inr (.inr (.inr (va_up g25 i25 (some (mi_SC + 1 + 2 * 20))))))))) n (.inl (5, m30, .inr (.inr (.inr (.inr (va_up g30 i30 (some (mi_SC + 1 + 2 * 21))))))))) n (.inl (5, m35, .inr (.inr (.inr (.inr (va_up g35 i35 (some (mi_SC + 1 + 2 * 22))))))))) n (.inl (5, m40, .inr (.inr (.inr (.inr (va_up g40 i40 (some (mi_SC + 1 + 2 * 23))))))))) n (.inl (5, m45, .inr (.inr (.inr (.inr (va_up g45 i45 (some (mi_SC + 1 + 2 * 24))))))))) n (.inl (5, m50, .inr (.inr (.inr (.inr (va_up g50 i50 (some (mi_SC + 1 + 2 * 25))))))))) n (.inl (5, m55, .inr (.inr (.inr (.inr (va_up g55 i55 (some (mi_SC + 1 + 2 * 26))))))))) n (.inl (5, m60, .inr (.inr (.inr (.inr (va_up g60 i60 (some (mi_SC + 1 + 2 * 27))))))))) n (.inl (5, m65, .inr (.inr (.inr (.inr (va_up g65 i65 (some (mi_SC + 1 + 2 * 28))))))))) n (.inl (5, m70, .inr (.inr (.inr (.inr (va_up g70 i70 (some (mi_SC + 1 + 2 * 29))))))))) n (.inl (5, m75, .inr (.inr (.inr (.inr (va_up g75 i75 (some (mi_SC + 1 + 2 * 30))))))))) n (.inl (5, m80, .inr (.inr (.inr (.inr (va_up g80 i80 (some (mi_SC + 1 + 2 * 31))))))))) n (.inl (5, m85, .inr (.inr (.inr (.inr (va_up g85 i85 (some (mi_SC + 1 + 2 * 32))))))))) n (.inl (5, m90, .inr (.inr (.inr (.inr (va_up g90 i90 (some (mi_SC + 1 + 2 * 33))))))))) n (.inl (5, m95, .inr (.inr (.inr (.inr (va_up g95 i95 (some (mi_SC + 1 + 2 * 34))))))))) n = .inl (5, m100, .inr (.inr (.inr (.inr g100))))) (h104 : (n + 1) ≤ mi_SC) (h106 : n < (n + 1)) (h107 : mi_ix 20 m105 i105) (h108 : (va_up (va_up (va_up (va_up (va_up (va_up (va_up (va_up (va_up (va_up (va_up (va_up (va_up (va_up (va_up (va_up (va_up (va_up (va_up (va_up (va_up f n (.inl (5, m2, .inr (.inr (.inr (.inr (fun _ => none))))))) n (.inl (5, m5, .inr (.inr (.inr (.inr (va_up g5 i5 (some (mi_SC + 1 + 2 * 16))))))))) n (.inl (5, m10, .inr (.inr (.inr (.inr (va_up g10 i10 (some (mi_SC + 1 + 2 * 17))))))))) n (.inl (5, m15, .inr (.inr (.inr (.inr (va_up g15 i15 (some (mi_SC + 1 + 2 * 18))))))))) n (.inl (5, m20, .inr (.inr (.inr (.inr (va_up g20 i20 (some (mi_SC + 1 + 2 * 19))))))))) n (.inl (5, m25, .inr (.inr (.inr (.inr (va_up g25 i25 (some (mi_SC + 1 + 2 * 20))))))))) n (.inl (5, m30, .inr (.inr (.inr (.inr (va_up g30 i30 (some (mi_SC + 1 + 2 * 21))))))))) n (.inl (5, m35, .inr (.inr (.inr (.inr (va_up g35 i35 (some (mi_SC + 1 + 2 * 22))))))))) n (.inl (5, m40, .inr (.inr (.inr (.inr (va_up g40 i40 (some (mi_SC + 1 + 2 * 23))))))))) n (.inl (5, m45, .inr (.inr (.inr (.inr (va_up g45 i45 (some (mi_SC + 1 + 2 * 24))))))))) n (.inl (5, m50, .inr (.inr (.inr (.inr (va_up g50 i50 (some (mi_SC + 1 + 2 * 25))))))))) n (.inl (5, m55, .inr (.inr (.inr (.inr (va_up g55 i55 (some (mi_SC + 1 + 2 * 26))))))))) n (.inl (5, m60, .inr (.inr (.inr (.inr (va_up g60 i60 (some (mi_SC + 1 + 2 * 27))))))))) n (.inl (5, m65, .inr (.inr (.inr (.inr (va_up g65 i65 (some (mi_SC + 1 + 2 * 28))))))))) n (.inl (5, m70, .inr (.inr (.inr (.inr (va_up g70 i70 (some (mi_SC + 1 + 2 * 29))))))))) n (.inl (5, m75, .inr (.inr (.inr (.inr (va_up g75 i75 (some (mi_SC + 1 + 2 * 30))))))))) n (.inl (5, m80, .inr (.inr (.inr (.inr (va_up g80 i80 (some (mi_SC + 1 + 2 * 31))))))))) n (.inl (5, m85, .inr (.inr (.inr (.inr (va_up g85 i85 (some (mi_SC + 1 + 2 * 32))))))))) n (.inl (5, m90, .inr (.inr (.inr (.inr (va_up g90 i90 (some (mi_SC + 1 + 2 * 33))))))))) n (.inl (5, m95, .inr (.inr (.inr (.inr (va_up g95 i95 (some (mi_SC + 1 + 2 * 34))))))))) n (.inl (5, m100, .inr (.inr (.inr (.inr (va_up g100 i100 (some (mi_SC + 1 + 2 * 35))))))))) n = .inl (5, m105, .inr (.inr (.inr (.inr g105))))) (h109 : (n + 1) ≤ mi_SC) (h111 : n < (n + 1)) (h112 : mi_ix 21 m110 i110) (h113 : (va_up (va_up (va_up (va_up (va_up (va_up (va_up (va_up (va_up (va_up (va_up (va_up (va_up (va_up (va_up (va_up (va_up (va_up (va_up (va_up (va_up (va_up f n (.inl (5, m2, .inr (.inr (.inr (.inr (fun _ => none))))))) n (.inl (5, m5, .inr (.inr (.inr (.inr (va_up g5 i5 (some (mi_SC + 1 + 2 * 16))))))))) n (.inl (5, m10, .inr (.inr (.inr (.inr (va_up g10 i10 (some (mi_SC + 1 + 2 * 17))))))))) n (.inl (5, m15, .inr (.inr (.inr (.inr (va_up g15 i15 (some (mi_SC + 1 + 2 * 18))))))))) n (.inl (5, m20, .inr (.inr (.inr (.inr (va_up g20 i20 (some (mi_SC + 1 + 2 * 19))))))))) n (.inl (5, m25, .inr (.inr (.inr (.inr (va_up g25 i25 (some (mi_SC + 1 + 2 * 20))))))))) n (.inl (5, m30, .inr (.inr (.inr (.inr (va_up g30 i30 (some (mi_SC + 1 + 2 * 21))))))))) n (.inl (5, m35, .inr (.inr (.inr (.inr (va_up g35 i35 (some (mi_SC + 1 + 2 * 22))))))))) n (.inl (5, m40, .inr (.inr (.inr (.inr (va_up g40 i40 (some (mi_SC + 1 + 2 * 23))))))))) n (.inl (5, m45, .inr (.inr (.inr (.inr (va_up g45 i45 (some (mi_SC + 1 + 2 * 24))))))))) n (.inl (5, m50, .inr (.inr (.inr (.inr (va_up g50 i50 (some (mi_SC + 1 + 2 * 25))))))))) n (.inl (5, m55, .inr (.inr (.inr (.inr (va_up g55 i55 (some (mi_SC + 1 + 2 * 26))))))))) n (.inl (5, m60, .inr (.inr (.inr (.inr (va_up g60 i60 (some (mi_SC + 1 + 2 * 27))))))))) n (.inl (5, m65, .inr (.inr (.inr (.inr (va_up g65 i65 (some (mi_SC + 1 + 2 * 28))))))))) n (.inl (5, m70, .inr (.inr (.inr (.inr (va_up g70 i70 (some (mi_SC + 1 + 2 * 29))))))))) n (.inl (5, m75, .inr (.inr (.inr (.inr (va_up g75 i75 (some (mi_SC + 1 + 2 * 30))))))))) n (.inl (5, m80, .inr (.inr (.inr (.inr (va_up g80 i80 (some (mi_SC + 1 + 2 * 31))))))))) n (.inl (5, m85, .inr (.inr (.inr (.inr (va_up g85 i85 (some (mi_SC + 1 + 2 * 32))))))))) n (.inl (5, m90, .inr (.inr (.inr (.inr (va_up g90 i90 (some (mi_SC + 1 + 2 * 33))))))))) n (.inl (5, m95, .inr (.inr (.inr (.inr (va_up g95 i95 (some (mi_SC + 1 + 2 * 34))))))))) n (.inl (5, m100, .inr (.inr (.inr (.inr (va_up g100 i100 (some (mi_SC + 1 + 2 * 35))))))))) n (.inl (5, m105, .inr (.inr (.inr (.inr (va_up g105 i105 (some (mi_SC + 1 + 2 * 36))))))))) n = .inl (5, m110, .inr (.inr (.inr (.inr g110))))) (h114 : (n + 1) ≤ mi_SC) (h116 : n < (n + 1)) (h117 : mi_ix 22 m115 i115) (h118 : (va_up (va_up (va_up (va_up (va_up (va_up (va_up (va_up (va_up (va_up (va_up (va_up (va_up (va_up (va_up (va_up (va_up (va_up (va_up (va_up (va_up (va_up (va_up f n (.inl (5, m2, .inr (.inr (.inr (.inr (fun _ => none))))))) n (.inl (5, m5, .inr (.inr (.inr (.inr (va_up g5 i5 (some (mi_SC + 1 + 2 * 16))))))))) n (.inl (5, m10, .inr (.inr (.inr (.inr (va_up g10 i10 (some (mi_SC + 1 + 2 * 17))))))))) n (.inl (5, m15, .inr (.inr (.inr (.inr (va_up g15 i15 (some (mi_SC + 1 + 2 * 18))))))))) n (.inl (5, m20, .inr (.inr (.inr (.inr (va_up g20 i20 (some (mi_SC + 1 + 2 * 19))))))))) n (.inl (5, m25, .inr (.inr (.inr (.inr (va_up g25 i25 (some (mi_SC + 1 + 2 * 20))))))))) n (.inl (5, m30, .inr (.inr (.inr (.inr (va_up g30 i30 (some (mi_SC + 1 + 2 * 21))))))))) n (.inl (5, m35, .inr (.inr (.inr (.inr (va_up g35 i35 (some (mi_SC + 1 + 2 * 22))))))))) n (.inl (5, m40, .inr (.inr (.inr (.inr (va_up g40 i40 (some (mi_SC + 1 + 2 * 23))))))))) n (.inl (5, m45, .inr (.inr (.inr (.inr (va_up g45 i45 (some (mi_SC + 1 + 2 * 24))))))))) n (.inl (5, m50, .inr (.inr (.inr (.inr (va_up g50 i50 (some (mi_SC + 1 + 2 * 25))))))))) n (.inl (5, m55, .inr (.inr (.inr (.inr (va_up g55 i55 (some (mi_SC + 1 + 2 * 26))))))))) n (.inl (5, m60, .inr (.inr (.inr (.inr (va_up g60 i60 (some (mi_SC + 1 + 2 * 27))))))))) n (.inl (5, m65, .inr (.inr (.inr (.inr (va_up g65 i65 (some (mi_SC + 1 + 2 * 28))))))))) n (.inl (5, m70, .inr (.inr (.inr (.inr (va_up g70 i70 (some (mi_SC + 1 + 2 * 29))))))))) n (.inl (5, m75, .inr (.inr (.inr (.inr (va_up g75 i75 (some (mi_SC + 1 + 2 * 30))))))))) n (.inl (5, m80, .inr (.inr (.inr (.inr (va_up g80 i80 (some (mi_SC + 1 + 2 * 31))))))))) n (.inl (5, m85, .inr (.inr (.inr (.inr (va_up g85 i85 (some (mi_SC + 1 + 2 * 32))))))))) n (.inl (5, m90, .inr (.inr (.inr (.inr (va_up g90 i90 (some (mi_SC + 1 + 2 * 33))))))))) n (.inl (5, m95, .inr (.inr (.inr (.inr (va_up g95 i95 (some (mi_SC + 1 + 2 * 34))))))))) n (.inl (5, m100, .inr (.inr (.inr (.inr (va_up g100 i100 (some (mi_SC + 1 + 2 * 35))))))))) n (.inl (5, m105, .inr (.inr (.inr (.inr (va_up g105 i105 (some (mi_SC + 1 + 2 * 36))))))))) n (.inl (5, m110, .inr (.inr (.inr (.inr (va_up g110 i110 (some (mi_SC + 1 + 2 * 37))))))))) n = .inl (5, m115, .inr (.inr (.inr (.inr g115))))) (h119 : (n + 1) ≤ mi_SC) (h121 : n < (n + 1)) (h122 : mi_ix 23 m120 i120) (h123 : (va_up (va_up (va_up (va_up (va_up (va_up (va_up (va_up (va_up (va_up (va_up (va_up (va_up (va_up (va_up (va_up (va_up (va_up (va_up (va_up (va_up (va_up (va_up (va_up f n (.inl (5, m2, .inr (.inr (.inr (.inr (fun _ => none))))))) n (.inl (5, m5, .inr (.inr (.inr (.inr (va_up g5 i5 (some (mi_SC + 1 + 2 * 16))))))))) n (.inl (5, m10, .inr (.inr (.inr (.inr (va_up g10 i10 (some (mi_SC + 1 + 2 * 17))))))))) n (.inl (5, m15, .inr (.inr (.inr (.inr (va_up g15 i15 (some (mi_SC + 1 + 2 * 18))))))))) n (.inl (5, m20, .inr (.inr (.inr (.inr (va_up g20 i20 (some (mi_SC + 1 + 2 * 19))))))))) n (.inl (5, m25, .inr (.inr (.inr (.inr (va_up g25 i25 (some (mi_SC + 1 + 2 * 20))))))))) n (.inl (5, m30, .inr (.inr (.inr (.inr (va_up g30 i30 (some (mi_SC + 1 + 2 * 21))))))))) n (.inl (5, m35, .inr (.inr (.inr (.inr (va_up g35 i35 (some (mi_SC + 1 + 2 * 22))))))))) n (.inl (5, m40, .inr (.inr (.inr (.inr (va_up g40 i40 (some (mi_SC + 1 + 2 * 23))))))))) n (.inl (5, m45, .inr (.inr (.inr (.inr (va_up g45 i45 (some (mi_SC + 1 + 2 * 24))))))))) n (.inl (5, m50, .inr (.inr (.inr (.inr (va_up g50 i50 (some (mi_SC + 1 + 2 * 25))))))))) n (.inl (5, m55, .inr (.inr (.inr (.inr (va_up g55 i55 (some (mi_SC + 1 + 2 * 26))))))))) n (.inl (5, m60, .inr (.inr (.inr (.inr (va_up g60 i60 (some (mi_SC + 1 + 2 * 27))))))))) n (.inl (5, m65, .inr (.inr (.inr (.inr (va_up g65 i65 (some (mi_SC + 1 + 2 * 28))))))))) n (.inl (5, m70, .inr (.inr (.inr (.inr (va_up g70 i70 (some (mi_SC + 1 + 2 * 29))))))))) n (.inl (5, m75, .inr (.inr (.inr (.inr (va_up g75 i75 (some (mi_SC + 1 + 2 * 30))))))))) n (.inl (5, m80, .inr (.inr (.inr (.inr (va_up g80 i80 (some (mi_SC + 1 + 2 * 31))))))))) n (.inl (5, m85, .inr (.inr (.inr (.inr (va_up g85 i85 (some (mi_SC + 1 + 2 * 32))))))))) n (.inl (5, m90, .inr (.inr (.inr (.inr (va_up g90 i90 (some (mi_SC + 1 + 2 * 33))))))))) n (.inl (5, m95, .inr (.inr (.inr (.inr (va_up g95 i95 (some (mi_SC + 1 + 2 * 34))))))))) n (.inl (5, m100, .inr (.inr (.inr (.inr (va_up g100 i100 (some (mi_SC + 1 + 2 * 35))))))))) n (.inl (5, m105, .inr (.inr (.inr (.inr (va_up g105 i105 (some (mi_SC + 1 + 2 * 36))))))))) n (.inl (5, m110, .inr (.inr (.inr (.inr (va_up g110 i110 (some (mi_SC + 1 + 2 * 37))))))))) n (.inl (5, m115, .inr (.inr (.inr (.inr (va_up g115 i115 (some (mi_SC + 1 + 2 * 38))))))))) n = .inl (5, m120, .inr (.inr (.inr (.inr g120))))) (h124 : (n + 1) ≤ mi_SC) (h126 : (va_up (va_up (va_up (va_up (va_up (va_up (va_up (va_up (va_up (va_up (va_up (va_up (va_up (va_up (va_up (va_up (va_up (va_up (va_up (va_up (va_up (va_up (va_up (va_up (va_up f n (.inl (5, m2, .inr (.inr (.inr (.inr (fun _ => none))))))) n (.inl (5, m5, .inr (.inr (.inr (.inr (va_up g5 i5 (some (mi_SC + 1 + 2 * 16))))))))) n (.inl (5, m10, .inr (.inr (.inr (.inr (va_up g10 i10 (some (mi_SC + 1 + 2 * 17))))))))) n (.inl (5, m15, .inr (.inr (.inr (.inr (va_up g15 i15 (some (mi_SC + 1 + 2 * 18))))))))) n (.inl (5, m20, .inr (.inr (.inr (.inr (va_up g20 i20 (some (mi_SC + 1 + 2 * 19))))))))) n (.inl (5, m25, .inr (.inr (.inr (.inr (va_up g25 i25 (some (mi_SC + 1 + 2 * 20))))))))) n (.inl (5, m30, .inr (.inr (.inr (.inr (va_up g30 i30 (some (mi_SC + 1 + 2 * 21))))))))) n (.inl (5, m35, .inr (.inr (.inr (.inr (va_up g35 i35 (some (mi_SC + 1 + 2 * 22))))))))) n (.inl (5, m40, .inr (.inr (.inr (.inr (va_up g40 i40 (some (mi_SC + 1 + 2 * 23))))))))) n (.inl (5, m45, .inr (.inr (.inr (.inr (va_up g45 i45 (some (mi_SC + 1 + 2 * 24))))))))) n (.inl (5, m50, .inr (.inr (.inr (.inr (va_up g50 i50 (some (mi_SC + 1 + 2 * 25))))))))) n (.inl (5, m55, .inr (.inr (.inr (.inr (va_up g55 i55 (some (mi_SC + 1 + 2 * 26))))))))) n (.inl (5, m60, .inr (.inr (.inr (.inr (va_up g60 i60 (some (mi_SC + 1 + 2 * 27))))))))) n (.inl (5, m65, .inr (.inr (.inr (.inr (va_up g65 i65 (some (mi_SC + 1 + 2 * 28))))))))) n (.inl (5, m70, .inr (.inr (.inr (.inr (va_up g70 i70 (some (mi_SC + 1 + 2 * 29))))))))) n (.inl (5, m75, .inr (.inr (.inr (.inr (va_up g75 i75 (some (mi_SC + 1 + 2 * 30))))))))) n (.inl (5, m80, .inr (.inr (.inr (.inr (va_up g80 i80 (some (mi_SC + 1 + 2 * 31))))))))) n (.inl (5, m85, .inr (.inr (.inr (.inr (va_up g85 i85 (some (mi_SC + 1 + 2 * 32))))))))) n (.inl (5, m90, .inr (.inr (.inr (.inr (va_up g90 i90 (some (mi_SC + 1 + 2 * 33))))))))) n (.inl (5, m95, .inr (.inr (.inr (.inr (va_up g95 i95 (some (mi_SC + 1 + 2 * 34))))))))) n (.inl (5, m100, .inr (.inr (.inr (.inr (va_up g100 i100 (some (mi_SC + 1 + 2 * 35))))))))) n (.inl (5, m105, .inr (.inr (.inr (.inr (va_up g105 i105 (some (mi_SC + 1 + 2 * 36))))))))) n (.inl (5, m110, .inr (.inr (.inr (.inr (va_up g110 i110 (some (mi_SC + 1 + 2 * 37))))))))) n (.inl (5, m115, .inr (.inr (.inr (.inr (va_up g115 i115 (some (mi_SC + 1 + 2 * 38))))))))) n (.inl (5, m120, .inr (.inr (.inr (.inr (va_up g120 i120 (some (mi_SC + 1 + 2 * 39))))))))) l1 = .inr (12, fs125)) (h127 : l1 < (n + 1)) (h128 : 7 < fs125.length) (h129 : mi_W d 134 179 [some (.ref l1)] [] ((n + 1), (sl + m2), (va_up (va_up (va_up (va_up (va_up (va_up (va_up (va_up (va_up (va_up (va_up (va_up (va_up (va_up (va_up (va_up (va_up (va_up (va_up (va_up (va_up (va_up (va_up (va_up (va_up (va_up f n (.inl (5, m2, .inr (.inr (.inr (.inr (fun _ => none))))))) n (.inl (5, m5, .inr (.inr (.inr (.inr (va_up g5 i5 (some (mi_SC + 1 + 2 * 16))))))))) n (.inl (5, m10, .inr (.inr (.inr (.inr (va_up g10 i10 (some (mi_SC + 1 + 2 * 17))))))))) n (.inl (5, m15, .inr (.inr (.inr (.inr (va_up g15 i15 (some (mi_SC + 1 + 2 * 18))))))))) n (.inl (5, m20, .inr (.inr (.inr (.inr (va_up g20 i20 (some (mi_SC + 1 + 2 * 19))))))))) n (.inl (5, m25, .inr (.inr (.inr (.inr (va_up g25 i25 (some (mi_SC + 1 + 2 * 20))))))))) n (.inl (5, m30, .inr (.inr (.inr (.inr (va_up g30 i30 (some (mi_SC + 1 + 2 * 21))))))))) n (.inl (5, m35, .inr (.inr (.inr (.inr (va_up g35 i35 (some (mi_SC + 1 + 2 * 22))))))))) n (.inl (5, m40, .inr (.inr (.inr (.inr (va_up g40 i40 (some (mi_SC + 1 + 2 * 23))))))))) n (.inl (5, m45, .inr (.inr (.inr (.inr (va_up g45 i45 (some (mi_SC + 1 + 2 * 24))))))))) n (.inl (5, m50, .inr (.inr (.inr (.inr (va_up g50 i50 (some (mi_SC + 1 + 2 * 25))))))))) n (.inl (5, m55, .inr (.inr (.inr (.inr (va_up g55 i55 (some (mi_SC + 1 + 2 * 26))))))))) n (.inl (5, m60, .inr (.inr (.inr (.inr (va_up g60 i60 (some (mi_SC + 1 + 2 * 27))))))))) n (.inl (5, m65, .inr (.inr (.inr (.inr (va_up g65 i65 (some (mi_SC + 1 + 2 * 28))))))))) n (.inl (5, m70, .inr (.inr (.inr (.inr (va_up g70 i70 (some (mi_SC + 1 + 2 * 29))))))))) n (.inl (5, m75, .inr (.inr (.inr (.inr (va_up g75 i75 (some (mi_SC + 1 + 2 * 30))))))))) n (.inl (5, m80, .inr (.inr (.inr (.inr (va_up g80 i80 (some (mi_SC + 1 + 2 * 31))))))))) n (.inl (5, m85, .inr (.inr (.inr (.inr (va_up g85 i85 (some (mi_SC + 1 + 2 * 32))))))))) n (.inl (5, m90, .inr (.inr (.inr (.inr (va_up g90 i90 (some (mi_SC + 1 + 2 * 33))))))))) n (.inl (5, m95, .inr (.inr (.inr (.inr (va_up g95 i95 (some (mi_SC + 1 + 2 * 34))))))))) n (.inl (5, m100, .inr (.inr (.inr (.inr (va_up g100 i100 (some (mi_SC + 1 + 2 * 35))))))))) n (.inl (5, m105, .inr (.inr (.inr (.inr (va_up g105 i105 (some (mi_SC + 1 + 2 * 36))))))))) n (.inl (5, m110, .inr (.inr (.inr (.inr (va_up g110 i110 (some (mi_SC + 1 + 2 * 37))))))))) n (.inl (5, m115, .inr (.inr (.inr (.inr (va_up g115 i115 (some (mi_SC + 1 + 2 * 38))))))))) n (.inl (5, m120, .inr (.inr (.inr (.inr (va_up g120 i120 (some (mi_SC + 1 + 2 * 39))))))))) l1 (.inr (12, fs125.set 7 (.ref n))))) Q) : mi_W d 134 32 [some (.ref l1)] [] (n, sl, f) Q := by
  refine w_aload_n cd_134_32 rfl ?_
  refine w_bipush (v := 24) cd_134_33 (by decide) ?_
  refine w_anewarray cd_134_35 (show mt_c 12 23 = some 17 by decide +kernel) (show mt_ka 17 = some 5 from rfl) h3 h4 ?_
  refine w_dup_r cd_134_38 ?_
  refine w_iconst (v := 0) cd_134_39 (by decide) ?_
  refine w_ldc (n := 16) cd_134_40 (by decide +kernel) ?_
  refine w_aastoreS cd_134_42 h8 h6 h9 (by decide) h7 ?_
  refine w_dup_r cd_134_43 ?_
  refine w_iconst (v := 1) cd_134_44 (by decide) ?_
  refine w_ldc (n := 17) cd_134_45 (by decide +kernel) ?_
  refine w_aastoreS cd_134_47 h13 h11 h14 (by decide) h12 ?_
  refine w_dup_r cd_134_48 ?_
  refine w_iconst (v := 2) cd_134_49 (by decide) ?_
  refine w_ldc (n := 18) cd_134_50 (by decide +kernel) ?_
  refine w_aastoreS cd_134_52 h18 h16 h19 (by decide) h17 ?_
  refine w_dup_r cd_134_53 ?_
  refine w_iconst (v := 3) cd_134_54 (by decide) ?_
  refine w_ldc (n := 19) cd_134_55 (by decide +kernel) ?_
  refine w_aastoreS cd_134_57 h23 h21 h24 (by decide) h22 ?_
  refine w_dup_r cd_134_58 ?_
  refine w_iconst (v := 4) cd_134_59 (by decide) ?_
  refine w_ldc (n := 20) cd_134_60 (by decide +kernel) ?_
  refine w_aastoreS cd_134_62 h28 h26 h29 (by decide) h27 ?_
  refine w_dup_r cd_134_63 ?_
  refine w_iconst (v := 5) cd_134_64 (by decide) ?_
  refine w_ldc (n := 21) cd_134_65 (by decide +kernel) ?_
  refine w_aastoreS cd_134_67 h33 h31 h34 (by decide) h32 ?_
  refine w_dup_r cd_134_68 ?_
  refine w_bipush (v := 6) cd_134_69 (by decide) ?_
  refine w_ldc (n := 22) cd_134_71 (by decide +kernel) ?_
  refine w_aastoreS cd_134_73 h38 h36 h39 (by decide) h37 ?_
  refine w_dup_r cd_134_74 ?_
  refine w_bipush (v := 7) cd_134_75 (by decide) ?_
  refine w_ldc (n := 23) cd_134_77 (by decide +kernel) ?_
  refine w_aastoreS cd_134_79 h43 h41 h44 (by decide) h42 ?_
  refine w_dup_r cd_134_80 ?_
  refine w_bipush (v := 8) cd_134_81 (by decide) ?_
  refine w_ldc (n := 24) cd_134_83 (by decide +kernel) ?_
  refine w_aastoreS cd_134_85 h48 h46 h49 (by decide) h47 ?_
  refine w_dup_r cd_134_86 ?_
  refine w_bipush (v := 9) cd_134_87 (by decide) ?_
  refine w_ldc (n := 25) cd_134_89 (by decide +kernel) ?_
  refine w_aastoreS cd_134_91 h53 h51 h54 (by decide) h52 ?_
  refine w_dup_r cd_134_92 ?_
  refine w_bipush (v := 10) cd_134_93 (by decide) ?_
  refine w_ldc (n := 26) cd_134_95 (by decide +kernel) ?_
  refine w_aastoreS cd_134_97 h58 h56 h59 (by decide) h57 ?_
  refine w_dup_r cd_134_98 ?_
  refine w_bipush (v := 11) cd_134_99 (by decide) ?_
  refine w_ldc (n := 27) cd_134_101 (by decide +kernel) ?_
  refine w_aastoreS cd_134_103 h63 h61 h64 (by decide) h62 ?_
  refine w_dup_r cd_134_104 ?_
  refine w_bipush (v := 12) cd_134_105 (by decide) ?_
  refine w_ldc (n := 28) cd_134_107 (by decide +kernel) ?_
  refine w_aastoreS cd_134_109 h68 h66 h69 (by decide) h67 ?_
  refine w_dup_r cd_134_110 ?_
  refine w_bipush (v := 13) cd_134_111 (by decide) ?_
  refine w_ldc (n := 29) cd_134_113 (by decide +kernel) ?_
  refine w_aastoreS cd_134_115 h73 h71 h74 (by decide) h72 ?_
  refine w_dup_r cd_134_116 ?_
  refine w_bipush (v := 14) cd_134_117 (by decide) ?_
  refine w_ldc (n := 30) cd_134_119 (by decide +kernel) ?_
  refine w_aastoreS cd_134_121 h78 h76 h79 (by decide) h77 ?_
  refine w_dup_r cd_134_122 ?_
  refine w_bipush (v := 15) cd_134_123 (by decide) ?_
  refine w_ldc (n := 31) cd_134_125 (by decide +kernel) ?_
  refine w_aastoreS cd_134_127 h83 h81 h84 (by decide) h82 ?_
  refine w_dup_r cd_134_128 ?_
  refine w_bipush (v := 16) cd_134_129 (by decide) ?_
  refine w_ldc (n := 32) cd_134_131 (by decide +kernel) ?_
  refine w_aastoreS cd_134_133 h88 h86 h89 (by decide) h87 ?_
  refine w_dup_r cd_134_134 ?_
  refine w_bipush (v := 17) cd_134_135 (by decide) ?_
  refine w_ldc (n := 33) cd_134_137 (by decide +kernel) ?_
  refine w_aastoreS cd_134_139 h93 h91 h94 (by decide) h92 ?_
  refine w_dup_r cd_134_140 ?_
  refine w_bipush (v := 18) cd_134_141 (by decide) ?_
  refine w_ldc (n := 34) cd_134_143 (by decide +kernel) ?_
  refine w_aastoreS cd_134_145 h98 h96 h99 (by decide) h97 ?_
  refine w_dup_r cd_134_146 ?_
  refine w_bipush (v := 19) cd_134_147 (by decide) ?_
  refine w_ldc (n := 35) cd_134_149 (by decide +kernel) ?_
  refine w_aastoreS cd_134_151 h103 h101 h104 (by decide) h102 ?_
  refine w_dup_r cd_134_152 ?_
  refine w_bipush (v := 20) cd_134_153 (by decide) ?_
  refine w_ldc (n := 36) cd_134_155 (by decide +kernel) ?_
  refine w_aastoreS cd_134_157 h108 h106 h109 (by decide) h107 ?_
  refine w_dup_r cd_134_158 ?_
  refine w_bipush (v := 21) cd_134_159 (by decide) ?_
  refine w_ldc (n := 37) cd_134_161 (by decide +kernel) ?_
  refine w_aastoreS cd_134_163 h113 h111 h114 (by decide) h112 ?_
  refine w_dup_r cd_134_164 ?_
  refine w_bipush (v := 22) cd_134_165 (by decide) ?_
  refine w_ldc (n := 38) cd_134_167 (by decide +kernel) ?_
  refine w_aastoreS cd_134_169 h118 h116 h119 (by decide) h117 ?_
  refine w_dup_r cd_134_170 ?_
  refine w_bipush (v := 23) cd_134_171 (by decide) ?_
  refine w_ldc (n := 39) cd_134_173 (by decide +kernel) ?_
  refine w_aastoreS cd_134_175 h123 h121 h124 (by decide) h122 ?_
  refine w_putfield (w := .ref n) cd_134_176 (show mt_f 12 73 = some (12, 7) by decide +kernel) h126 h127 ⟨h128, rfl, Or.inr (by decide +kernel)⟩ ?_
  exact h129
theorem b_134_179 {d : Nat} {Q : (Option Value ⊕ Nat) → mi_H → Prop} (n sl : Nat) (f : Nat → mi_C) {l1 : Nat} {m2 : Nat} {fs5 : List Value} {m9 : Nat} {fs12 : List Value} {m16 : Nat} {fs19 : List Value} (h3 : ¬ 800 < (0 : Int32) ∧ Int32.toNatClampNeg 800 = m2 ∧ m2 ≤ 1000000) (h4 : n + 1 ≤ mi_NC ∧ sl + m2 ≤ mi_NS) (h6 : (va_up f n (.inl (0, m2, .inl (fun _ => 0)))) l1 = .inr (12, fs5)) (h7 : l1 < (n + 1)) (h8 : 12 < fs5.length) (h10 : ¬ 800 < (0 : Int32) ∧ Int32.toNatClampNeg 800 = m9 ∧ m9 ≤ 1000000) (h11 : (n + 1) + 1 ≤ mi_NC ∧ (sl + m2) + m9 ≤ mi_NS) (h13 : (va_up (va_up (va_up f n (.inl (0, m2, .inl (fun _ => 0)))) l1 (.inr (12, fs5.set 12 (.ref n)))) (n + 1) (.inl (0, m9, .inl (fun _ => 0)))) l1 = .inr (12, fs12)) (h14 : l1 < ((n + 1) + 1)) (h15 : 13 < fs12.length) (h17 : ¬ 800 < (0 : Int32) ∧ Int32.toNatClampNeg 800 = m16 ∧ m16 ≤ 1000000) (h18 : ((n + 1) + 1) + 1 ≤ mi_NC ∧ ((sl + m2) + m9) + m16 ≤ mi_NS) (h20 : (va_up (va_up (va_up (va_up (va_up f n (.inl (0, m2, .inl (fun _ => 0)))) l1 (.inr (12, fs5.set 12 (.ref n)))) (n + 1) (.inl (0, m9, .inl (fun _ => 0)))) l1 (.inr (12, fs12.set 13 (.ref (n + 1))))) ((n + 1) + 1) (.inl (0, m16, .inl (fun _ => 0)))) l1 = .inr (12, fs19)) (h21 : l1 < (((n + 1) + 1) + 1)) (h22 : 14 < fs19.length) (h23 : mi_W d 134 206 [some (.ref l1)] [] ((((n + 1) + 1) + 1), (((sl + m2) + m9) + m16), (va_up (va_up (va_up (va_up (va_up (va_up f n (.inl (0, m2, .inl (fun _ => 0)))) l1 (.inr (12, fs5.set 12 (.ref n)))) (n + 1) (.inl (0, m9, .inl (fun _ => 0)))) l1 (.inr (12, fs12.set 13 (.ref (n + 1))))) ((n + 1) + 1) (.inl (0, m16, .inl (fun _ => 0)))) l1 (.inr (12, fs19.set 14 (.ref ((n + 1) + 1)))))) Q) : mi_W d 134 179 [some (.ref l1)] [] (n, sl, f) Q := by
  refine w_aload_n cd_134_179 rfl ?_
  refine w_sipush (v := 800) cd_134_180 (by decide) ?_
  refine w_newarray cd_134_183 rfl h3 h4 ?_
  refine w_putfield (w := .ref n) cd_134_185 (show mt_f 12 77 = some (12, 12) by decide +kernel) h6 h7 ⟨h8, rfl, Or.inr (by decide +kernel)⟩ ?_
  refine w_aload_n cd_134_188 rfl ?_
  refine w_sipush (v := 800) cd_134_189 (by decide) ?_
  refine w_newarray cd_134_192 rfl h10 h11 ?_
  refine w_putfield (w := .ref (n + 1)) cd_134_194 (show mt_f 12 80 = some (12, 13) by decide +kernel) h13 h14 ⟨h15, rfl, Or.inr (by decide +kernel)⟩ ?_
  refine w_aload_n cd_134_197 rfl ?_
  refine w_sipush (v := 800) cd_134_198 (by decide) ?_
  refine w_newarray cd_134_201 rfl h17 h18 ?_
  refine w_putfield (w := .ref ((n + 1) + 1)) cd_134_203 (show mt_f 12 83 = some (12, 14) by decide +kernel) h20 h21 ⟨h22, rfl, Or.inr (by decide +kernel)⟩ ?_
  exact h23
theorem b_134_206 {d : Nat} {Q : (Option Value ⊕ Nat) → mi_H → Prop} (n sl : Nat) (f : Nat → mi_C) {l1 : Nat} {m2 : Nat} {fs5 : List Value} {m9 : Nat} {fs12 : List Value} {m16 : Nat} {fs19 : List Value} (h3 : ¬ 800 < (0 : Int32) ∧ Int32.toNatClampNeg 800 = m2 ∧ m2 ≤ 1000000) (h4 : n + 1 ≤ mi_NC ∧ sl + m2 ≤ mi_NS) (h6 : (va_up f n (.inl (0, m2, .inl (fun _ => 0)))) l1 = .inr (12, fs5)) (h7 : l1 < (n + 1)) (h8 : 15 < fs5.length) (h10 : ¬ 800 < (0 : Int32) ∧ Int32.toNatClampNeg 800 = m9 ∧ m9 ≤ 1000000) (h11 : (n + 1) + 1 ≤ mi_NC ∧ (sl + m2) + m9 ≤ mi_NS) (h13 : (va_up (va_up (va_up f n (.inl (0, m2, .inl (fun _ => 0)))) l1 (.inr (12, fs5.set 15 (.ref n)))) (n + 1) (.inl (0, m9, .inl (fun _ => 0)))) l1 = .inr (12, fs12)) (h14 : l1 < ((n + 1) + 1)) (h15 : 16 < fs12.length) (h17 : ¬ 800 < (0 : Int32) ∧ Int32.toNatClampNeg 800 = m16 ∧ m16 ≤ 1000000) (h18 : ((n + 1) + 1) + 1 ≤ mi_NC ∧ ((sl + m2) + m9) + m16 ≤ mi_NS) (h20 : (va_up (va_up (va_up (va_up (va_up f n (.inl (0, m2, .inl (fun _ => 0)))) l1 (.inr (12, fs5.set 15 (.ref n)))) (n + 1) (.inl (0, m9, .inl (fun _ => 0)))) l1 (.inr (12, fs12.set 16 (.ref (n + 1))))) ((n + 1) + 1) (.inl (0, m16, .inl (fun _ => 0)))) l1 = .inr (12, fs19)) (h21 : l1 < (((n + 1) + 1) + 1)) (h22 : 17 < fs19.length) (h23 : mi_W d 134 233 [some (.ref l1)] [] ((((n + 1) + 1) + 1), (((sl + m2) + m9) + m16), (va_up (va_up (va_up (va_up (va_up (va_up f n (.inl (0, m2, .inl (fun _ => 0)))) l1 (.inr (12, fs5.set 15 (.ref n)))) (n + 1) (.inl (0, m9, .inl (fun _ => 0)))) l1 (.inr (12, fs12.set 16 (.ref (n + 1))))) ((n + 1) + 1) (.inl (0, m16, .inl (fun _ => 0)))) l1 (.inr (12, fs19.set 17 (.ref ((n + 1) + 1)))))) Q) : mi_W d 134 206 [some (.ref l1)] [] (n, sl, f) Q := by
  refine w_aload_n cd_134_206 rfl ?_
  refine w_sipush (v := 800) cd_134_207 (by decide) ?_
  refine w_newarray cd_134_210 rfl h3 h4 ?_
  refine w_putfield (w := .ref n) cd_134_212 (show mt_f 12 86 = some (12, 15) by decide +kernel) h6 h7 ⟨h8, rfl, Or.inr (by decide +kernel)⟩ ?_
  refine w_aload_n cd_134_215 rfl ?_
  refine w_sipush (v := 800) cd_134_216 (by decide) ?_
  refine w_newarray cd_134_219 rfl h10 h11 ?_
  refine w_putfield (w := .ref (n + 1)) cd_134_221 (show mt_f 12 89 = some (12, 16) by decide +kernel) h13 h14 ⟨h15, rfl, Or.inr (by decide +kernel)⟩ ?_
  refine w_aload_n cd_134_224 rfl ?_
  refine w_sipush (v := 800) cd_134_225 (by decide) ?_
  refine w_newarray cd_134_228 rfl h17 h18 ?_
  refine w_putfield (w := .ref ((n + 1) + 1)) cd_134_230 (show mt_f 12 92 = some (12, 17) by decide +kernel) h20 h21 ⟨h22, rfl, Or.inr (by decide +kernel)⟩ ?_
  exact h23
theorem b_134_233 {d : Nat} {Q : (Option Value ⊕ Nat) → mi_H → Prop} (n sl : Nat) (f : Nat → mi_C) {l1 : Nat} {m2 : Nat} {fs5 : List Value} {m9 : Nat} {fs12 : List Value} {m16 : Nat} {fs19 : List Value} (h3 : ¬ 800 < (0 : Int32) ∧ Int32.toNatClampNeg 800 = m2 ∧ m2 ≤ 1000000) (h4 : n + 1 ≤ mi_NC ∧ sl + m2 ≤ mi_NS) (h6 : (va_up f n (.inl (0, m2, .inl (fun _ => 0)))) l1 = .inr (12, fs5)) (h7 : l1 < (n + 1)) (h8 : 18 < fs5.length) (h10 : ¬ 800 < (0 : Int32) ∧ Int32.toNatClampNeg 800 = m9 ∧ m9 ≤ 1000000) (h11 : (n + 1) + 1 ≤ mi_NC ∧ (sl + m2) + m9 ≤ mi_NS) (h13 : (va_up (va_up (va_up f n (.inl (0, m2, .inl (fun _ => 0)))) l1 (.inr (12, fs5.set 18 (.ref n)))) (n + 1) (.inl (0, m9, .inl (fun _ => 0)))) l1 = .inr (12, fs12)) (h14 : l1 < ((n + 1) + 1)) (h15 : 19 < fs12.length) (h17 : ¬ 800 < (0 : Int32) ∧ Int32.toNatClampNeg 800 = m16 ∧ m16 ≤ 1000000) (h18 : ((n + 1) + 1) + 1 ≤ mi_NC ∧ ((sl + m2) + m9) + m16 ≤ mi_NS) (h20 : (va_up (va_up (va_up (va_up (va_up f n (.inl (0, m2, .inl (fun _ => 0)))) l1 (.inr (12, fs5.set 18 (.ref n)))) (n + 1) (.inl (0, m9, .inl (fun _ => 0)))) l1 (.inr (12, fs12.set 19 (.ref (n + 1))))) ((n + 1) + 1) (.inl (3, m16, .inr (.inl (fun _ => 0))))) l1 = .inr (12, fs19)) (h21 : l1 < (((n + 1) + 1) + 1)) (h22 : 20 < fs19.length) (h23 : mi_W d 134 260 [some (.ref l1)] [] ((((n + 1) + 1) + 1), (((sl + m2) + m9) + m16), (va_up (va_up (va_up (va_up (va_up (va_up f n (.inl (0, m2, .inl (fun _ => 0)))) l1 (.inr (12, fs5.set 18 (.ref n)))) (n + 1) (.inl (0, m9, .inl (fun _ => 0)))) l1 (.inr (12, fs12.set 19 (.ref (n + 1))))) ((n + 1) + 1) (.inl (3, m16, .inr (.inl (fun _ => 0))))) l1 (.inr (12, fs19.set 20 (.ref ((n + 1) + 1)))))) Q) : mi_W d 134 233 [some (.ref l1)] [] (n, sl, f) Q := by
  refine w_aload_n cd_134_233 rfl ?_
  refine w_sipush (v := 800) cd_134_234 (by decide) ?_
  refine w_newarray cd_134_237 rfl h3 h4 ?_
  refine w_putfield (w := .ref n) cd_134_239 (show mt_f 12 95 = some (12, 18) by decide +kernel) h6 h7 ⟨h8, rfl, Or.inr (by decide +kernel)⟩ ?_
  refine w_aload_n cd_134_242 rfl ?_
  refine w_sipush (v := 800) cd_134_243 (by decide) ?_
  refine w_newarray cd_134_246 rfl h10 h11 ?_
  refine w_putfield (w := .ref (n + 1)) cd_134_248 (show mt_f 12 98 = some (12, 19) by decide +kernel) h13 h14 ⟨h15, rfl, Or.inr (by decide +kernel)⟩ ?_
  refine w_aload_n cd_134_251 rfl ?_
  refine w_sipush (v := 800) cd_134_252 (by decide) ?_
  refine w_newarray cd_134_255 rfl h17 h18 ?_
  refine w_putfield (w := .ref ((n + 1) + 1)) cd_134_257 (show mt_f 12 101 = some (12, 20) by decide +kernel) h20 h21 ⟨h22, rfl, Or.inr (by decide +kernel)⟩ ?_
  exact h23
theorem b_134_260 {d : Nat} {Q : (Option Value ⊕ Nat) → mi_H → Prop} (n sl : Nat) (f : Nat → mi_C) {l1 : Nat} {m2 : Nat} {fs5 : List Value} {m9 : Nat} {fs12 : List Value} {m16 : Nat} {fs19 : List Value} (h3 : ¬ 4200 < (0 : Int32) ∧ Int32.toNatClampNeg 4200 = m2 ∧ m2 ≤ 1000000) (h4 : n + 1 ≤ mi_NC ∧ sl + m2 ≤ mi_NS) (h6 : (va_up f n (.inl (3, m2, .inr (.inl (fun _ => 0))))) l1 = .inr (12, fs5)) (h7 : l1 < (n + 1)) (h8 : 28 < fs5.length) (h10 : ¬ 4200 < (0 : Int32) ∧ Int32.toNatClampNeg 4200 = m9 ∧ m9 ≤ 1000000) (h11 : (n + 1) + 1 ≤ mi_NC ∧ (sl + m2) + m9 ≤ mi_NS) (h13 : (va_up (va_up (va_up f n (.inl (3, m2, .inr (.inl (fun _ => 0))))) l1 (.inr (12, fs5.set 28 (.ref n)))) (n + 1) (.inl (3, m9, .inr (.inl (fun _ => 0))))) l1 = .inr (12, fs12)) (h14 : l1 < ((n + 1) + 1)) (h15 : 29 < fs12.length) (h17 : ¬ 8 < (0 : Int32) ∧ Int32.toNatClampNeg 8 = m16 ∧ m16 ≤ 1000000) (h18 : ((n + 1) + 1) + 1 ≤ mi_NC ∧ ((sl + m2) + m9) + m16 ≤ mi_NS) (h20 : (va_up (va_up (va_up (va_up (va_up f n (.inl (3, m2, .inr (.inl (fun _ => 0))))) l1 (.inr (12, fs5.set 28 (.ref n)))) (n + 1) (.inl (3, m9, .inr (.inl (fun _ => 0))))) l1 (.inr (12, fs12.set 29 (.ref (n + 1))))) ((n + 1) + 1) (.inl (0, m16, .inl (fun _ => 0)))) l1 = .inr (12, fs19)) (h21 : l1 < (((n + 1) + 1) + 1)) (h22 : 30 < fs19.length) (h23 : mi_W d 134 286 [some (.ref l1)] [] ((((n + 1) + 1) + 1), (((sl + m2) + m9) + m16), (va_up (va_up (va_up (va_up (va_up (va_up f n (.inl (3, m2, .inr (.inl (fun _ => 0))))) l1 (.inr (12, fs5.set 28 (.ref n)))) (n + 1) (.inl (3, m9, .inr (.inl (fun _ => 0))))) l1 (.inr (12, fs12.set 29 (.ref (n + 1))))) ((n + 1) + 1) (.inl (0, m16, .inl (fun _ => 0)))) l1 (.inr (12, fs19.set 30 (.ref ((n + 1) + 1)))))) Q) : mi_W d 134 260 [some (.ref l1)] [] (n, sl, f) Q := by
  refine w_aload_n cd_134_260 rfl ?_
  refine w_sipush (v := 4200) cd_134_261 (by decide) ?_
  refine w_newarray cd_134_264 rfl h3 h4 ?_
  refine w_putfield (w := .ref n) cd_134_266 (show mt_f 12 105 = some (12, 28) by decide +kernel) h6 h7 ⟨h8, rfl, Or.inr (by decide +kernel)⟩ ?_
  refine w_aload_n cd_134_269 rfl ?_
  refine w_sipush (v := 4200) cd_134_270 (by decide) ?_
  refine w_newarray cd_134_273 rfl h10 h11 ?_
  refine w_putfield (w := .ref (n + 1)) cd_134_275 (show mt_f 12 108 = some (12, 29) by decide +kernel) h13 h14 ⟨h15, rfl, Or.inr (by decide +kernel)⟩ ?_
  refine w_aload_n cd_134_278 rfl ?_
  refine w_bipush (v := 8) cd_134_279 (by decide) ?_
  refine w_newarray cd_134_281 rfl h17 h18 ?_
  refine w_putfield (w := .ref ((n + 1) + 1)) cd_134_283 (show mt_f 12 111 = some (12, 30) by decide +kernel) h20 h21 ⟨h22, rfl, Or.inr (by decide +kernel)⟩ ?_
  exact h23
theorem b_134_286 {d : Nat} {Q : (Option Value ⊕ Nat) → mi_H → Prop} (n sl : Nat) (f : Nat → mi_C) {l1 : Nat} {m2 : Nat} {fs5 : List Value} {m9 : Nat} {fs12 : List Value} {m16 : Nat} {fs19 : List Value} (h3 : ¬ 8 < (0 : Int32) ∧ Int32.toNatClampNeg 8 = m2 ∧ m2 ≤ 1000000) (h4 : n + 1 ≤ mi_NC ∧ sl + m2 ≤ mi_NS) (h6 : (va_up f n (.inl (0, m2, .inl (fun _ => 0)))) l1 = .inr (12, fs5)) (h7 : l1 < (n + 1)) (h8 : 31 < fs5.length) (h10 : ¬ 4 < (0 : Int32) ∧ Int32.toNatClampNeg 4 = m9 ∧ m9 ≤ 1000000) (h11 : (n + 1) + 1 ≤ mi_NC ∧ (sl + m2) + m9 ≤ mi_NS) (h13 : (va_up (va_up (va_up f n (.inl (0, m2, .inl (fun _ => 0)))) l1 (.inr (12, fs5.set 31 (.ref n)))) (n + 1) (.inl (0, m9, .inl (fun _ => 0)))) l1 = .inr (12, fs12)) (h14 : l1 < ((n + 1) + 1)) (h15 : 32 < fs12.length) (h17 : ¬ 4 < (0 : Int32) ∧ Int32.toNatClampNeg 4 = m16 ∧ m16 ≤ 1000000) (h18 : ((n + 1) + 1) + 1 ≤ mi_NC ∧ ((sl + m2) + m9) + m16 ≤ mi_NS) (h20 : (va_up (va_up (va_up (va_up (va_up f n (.inl (0, m2, .inl (fun _ => 0)))) l1 (.inr (12, fs5.set 31 (.ref n)))) (n + 1) (.inl (0, m9, .inl (fun _ => 0)))) l1 (.inr (12, fs12.set 32 (.ref (n + 1))))) ((n + 1) + 1) (.inl (0, m16, .inl (fun _ => 0)))) l1 = .inr (12, fs19)) (h21 : l1 < (((n + 1) + 1) + 1)) (h22 : 33 < fs19.length) (h23 : mi_W d 134 308 [some (.ref l1)] [] ((((n + 1) + 1) + 1), (((sl + m2) + m9) + m16), (va_up (va_up (va_up (va_up (va_up (va_up f n (.inl (0, m2, .inl (fun _ => 0)))) l1 (.inr (12, fs5.set 31 (.ref n)))) (n + 1) (.inl (0, m9, .inl (fun _ => 0)))) l1 (.inr (12, fs12.set 32 (.ref (n + 1))))) ((n + 1) + 1) (.inl (0, m16, .inl (fun _ => 0)))) l1 (.inr (12, fs19.set 33 (.ref ((n + 1) + 1)))))) Q) : mi_W d 134 286 [some (.ref l1)] [] (n, sl, f) Q := by
  refine w_aload_n cd_134_286 rfl ?_
  refine w_bipush (v := 8) cd_134_287 (by decide) ?_
  refine w_newarray cd_134_289 rfl h3 h4 ?_
  refine w_putfield (w := .ref n) cd_134_291 (show mt_f 12 114 = some (12, 31) by decide +kernel) h6 h7 ⟨h8, rfl, Or.inr (by decide +kernel)⟩ ?_
  refine w_aload_n cd_134_294 rfl ?_
  refine w_iconst (v := 4) cd_134_295 (by decide) ?_
  refine w_newarray cd_134_296 rfl h10 h11 ?_
  refine w_putfield (w := .ref (n + 1)) cd_134_298 (show mt_f 12 117 = some (12, 32) by decide +kernel) h13 h14 ⟨h15, rfl, Or.inr (by decide +kernel)⟩ ?_
  refine w_aload_n cd_134_301 rfl ?_
  refine w_iconst (v := 4) cd_134_302 (by decide) ?_
  refine w_newarray cd_134_303 rfl h17 h18 ?_
  refine w_putfield (w := .ref ((n + 1) + 1)) cd_134_305 (show mt_f 12 120 = some (12, 33) by decide +kernel) h20 h21 ⟨h22, rfl, Or.inr (by decide +kernel)⟩ ?_
  exact h23
theorem b_134_308 {d : Nat} {Q : (Option Value ⊕ Nat) → mi_H → Prop} (n sl : Nat) (f : Nat → mi_C) {l1 : Nat} {m2 : Nat} {fs5 : List Value} {m9 : Nat} {fs12 : List Value} {m16 : Nat} {fs19 : List Value} (h3 : ¬ 8 < (0 : Int32) ∧ Int32.toNatClampNeg 8 = m2 ∧ m2 ≤ 1000000) (h4 : n + 1 ≤ mi_NC ∧ sl + m2 ≤ mi_NS) (h6 : (va_up f n (.inl (0, m2, .inl (fun _ => 0)))) l1 = .inr (12, fs5)) (h7 : l1 < (n + 1)) (h8 : 34 < fs5.length) (h10 : ¬ 8 < (0 : Int32) ∧ Int32.toNatClampNeg 8 = m9 ∧ m9 ≤ 1000000) (h11 : (n + 1) + 1 ≤ mi_NC ∧ (sl + m2) + m9 ≤ mi_NS) (h13 : (va_up (va_up (va_up f n (.inl (0, m2, .inl (fun _ => 0)))) l1 (.inr (12, fs5.set 34 (.ref n)))) (n + 1) (.inl (0, m9, .inl (fun _ => 0)))) l1 = .inr (12, fs12)) (h14 : l1 < ((n + 1) + 1)) (h15 : 35 < fs12.length) (h17 : ¬ 8 < (0 : Int32) ∧ Int32.toNatClampNeg 8 = m16 ∧ m16 ≤ 1000000) (h18 : ((n + 1) + 1) + 1 ≤ mi_NC ∧ ((sl + m2) + m9) + m16 ≤ mi_NS) (h20 : (va_up (va_up (va_up (va_up (va_up f n (.inl (0, m2, .inl (fun _ => 0)))) l1 (.inr (12, fs5.set 34 (.ref n)))) (n + 1) (.inl (0, m9, .inl (fun _ => 0)))) l1 (.inr (12, fs12.set 35 (.ref (n + 1))))) ((n + 1) + 1) (.inl (0, m16, .inl (fun _ => 0)))) l1 = .inr (12, fs19)) (h21 : l1 < (((n + 1) + 1) + 1)) (h22 : 36 < fs19.length) (h23 : mi_W d 134 332 [some (.ref l1)] [] ((((n + 1) + 1) + 1), (((sl + m2) + m9) + m16), (va_up (va_up (va_up (va_up (va_up (va_up f n (.inl (0, m2, .inl (fun _ => 0)))) l1 (.inr (12, fs5.set 34 (.ref n)))) (n + 1) (.inl (0, m9, .inl (fun _ => 0)))) l1 (.inr (12, fs12.set 35 (.ref (n + 1))))) ((n + 1) + 1) (.inl (0, m16, .inl (fun _ => 0)))) l1 (.inr (12, fs19.set 36 (.ref ((n + 1) + 1)))))) Q) : mi_W d 134 308 [some (.ref l1)] [] (n, sl, f) Q := by
  refine w_aload_n cd_134_308 rfl ?_
  refine w_bipush (v := 8) cd_134_309 (by decide) ?_
  refine w_newarray cd_134_311 rfl h3 h4 ?_
  refine w_putfield (w := .ref n) cd_134_313 (show mt_f 12 123 = some (12, 34) by decide +kernel) h6 h7 ⟨h8, rfl, Or.inr (by decide +kernel)⟩ ?_
  refine w_aload_n cd_134_316 rfl ?_
  refine w_bipush (v := 8) cd_134_317 (by decide) ?_
  refine w_newarray cd_134_319 rfl h10 h11 ?_
  refine w_putfield (w := .ref (n + 1)) cd_134_321 (show mt_f 12 126 = some (12, 35) by decide +kernel) h13 h14 ⟨h15, rfl, Or.inr (by decide +kernel)⟩ ?_
  refine w_aload_n cd_134_324 rfl ?_
  refine w_bipush (v := 8) cd_134_325 (by decide) ?_
  refine w_newarray cd_134_327 rfl h17 h18 ?_
  refine w_putfield (w := .ref ((n + 1) + 1)) cd_134_329 (show mt_f 12 129 = some (12, 36) by decide +kernel) h20 h21 ⟨h22, rfl, Or.inr (by decide +kernel)⟩ ?_
  exact h23
theorem b_134_332 {d : Nat} {Q : (Option Value ⊕ Nat) → mi_H → Prop} (n sl : Nat) (f : Nat → mi_C) {l1 : Nat} {m2 : Nat} {fs5 : List Value} {m9 : Nat} {fs12 : List Value} {m16 : Nat} {fs19 : List Value} (h3 : ¬ 8 < (0 : Int32) ∧ Int32.toNatClampNeg 8 = m2 ∧ m2 ≤ 1000000) (h4 : n + 1 ≤ mi_NC ∧ sl + m2 ≤ mi_NS) (h6 : (va_up f n (.inl (0, m2, .inl (fun _ => 0)))) l1 = .inr (12, fs5)) (h7 : l1 < (n + 1)) (h8 : 37 < fs5.length) (h10 : ¬ 8 < (0 : Int32) ∧ Int32.toNatClampNeg 8 = m9 ∧ m9 ≤ 1000000) (h11 : (n + 1) + 1 ≤ mi_NC ∧ (sl + m2) + m9 ≤ mi_NS) (h13 : (va_up (va_up (va_up f n (.inl (0, m2, .inl (fun _ => 0)))) l1 (.inr (12, fs5.set 37 (.ref n)))) (n + 1) (.inl (0, m9, .inl (fun _ => 0)))) l1 = .inr (12, fs12)) (h14 : l1 < ((n + 1) + 1)) (h15 : 38 < fs12.length) (h17 : ¬ 800 < (0 : Int32) ∧ Int32.toNatClampNeg 800 = m16 ∧ m16 ≤ 1000000) (h18 : ((n + 1) + 1) + 1 ≤ mi_NC ∧ ((sl + m2) + m9) + m16 ≤ mi_NS) (h20 : (va_up (va_up (va_up (va_up (va_up f n (.inl (0, m2, .inl (fun _ => 0)))) l1 (.inr (12, fs5.set 37 (.ref n)))) (n + 1) (.inl (0, m9, .inl (fun _ => 0)))) l1 (.inr (12, fs12.set 38 (.ref (n + 1))))) ((n + 1) + 1) (.inl (0, m16, .inl (fun _ => 0)))) l1 = .inr (12, fs19)) (h21 : l1 < (((n + 1) + 1) + 1)) (h22 : 39 < fs19.length) (h23 : mi_W d 134 357 [some (.ref l1)] [] ((((n + 1) + 1) + 1), (((sl + m2) + m9) + m16), (va_up (va_up (va_up (va_up (va_up (va_up f n (.inl (0, m2, .inl (fun _ => 0)))) l1 (.inr (12, fs5.set 37 (.ref n)))) (n + 1) (.inl (0, m9, .inl (fun _ => 0)))) l1 (.inr (12, fs12.set 38 (.ref (n + 1))))) ((n + 1) + 1) (.inl (0, m16, .inl (fun _ => 0)))) l1 (.inr (12, fs19.set 39 (.ref ((n + 1) + 1)))))) Q) : mi_W d 134 332 [some (.ref l1)] [] (n, sl, f) Q := by
  refine w_aload_n cd_134_332 rfl ?_
  refine w_bipush (v := 8) cd_134_333 (by decide) ?_
  refine w_newarray cd_134_335 rfl h3 h4 ?_
  refine w_putfield (w := .ref n) cd_134_337 (show mt_f 12 132 = some (12, 37) by decide +kernel) h6 h7 ⟨h8, rfl, Or.inr (by decide +kernel)⟩ ?_
  refine w_aload_n cd_134_340 rfl ?_
  refine w_bipush (v := 8) cd_134_341 (by decide) ?_
  refine w_newarray cd_134_343 rfl h10 h11 ?_
  refine w_putfield (w := .ref (n + 1)) cd_134_345 (show mt_f 12 135 = some (12, 38) by decide +kernel) h13 h14 ⟨h15, rfl, Or.inr (by decide +kernel)⟩ ?_
  refine w_aload_n cd_134_348 rfl ?_
  refine w_sipush (v := 800) cd_134_349 (by decide) ?_
  refine w_newarray cd_134_352 rfl h17 h18 ?_
  refine w_putfield (w := .ref ((n + 1) + 1)) cd_134_354 (show mt_f 12 138 = some (12, 39) by decide +kernel) h20 h21 ⟨h22, rfl, Or.inr (by decide +kernel)⟩ ?_
  exact h23
theorem b_134_357 {d : Nat} {Q : (Option Value ⊕ Nat) → mi_H → Prop} (n sl : Nat) (f : Nat → mi_C) {l1 : Nat} {m2 : Nat} {fs5 : List Value} (h3 : ¬ 800 < (0 : Int32) ∧ Int32.toNatClampNeg 800 = m2 ∧ m2 ≤ 1000000) (h4 : n + 1 ≤ mi_NC ∧ sl + m2 ≤ mi_NS) (h6 : (va_up f n (.inl (0, m2, .inl (fun _ => 0)))) l1 = .inr (12, fs5)) (h7 : l1 < (n + 1)) (h8 : 40 < fs5.length) (h9 : (n + 1) + 1 ≤ mi_NC ∧ (sl + m2) + 7 ≤ mi_NS) (h10 : ((n + 1)) < ((n + 1) + 1)) (h11 : mi_W d 135 0 (mi_en 1 [.ref (n + 1)]) [] (((n + 1) + 1), ((sl + m2) + 7), (va_up (va_up (va_up f n (.inl (0, m2, .inl (fun _ => 0)))) l1 (.inr (12, fs5.set 40 (.ref n)))) (n + 1) (.inr (13, mt_df 13)))) (mi_Kc d 134 371 [some (.ref l1)] [.ref (n + 1), .ref l1] Q)) : mi_W (d + 1) 134 357 [some (.ref l1)] [] (n, sl, f) Q := by
  refine w_aload_n cd_134_357 rfl ?_
  refine w_sipush (v := 800) cd_134_358 (by decide) ?_
  refine w_newarray cd_134_361 rfl h3 h4 ?_
  refine w_putfield (w := .ref n) cd_134_363 (show mt_f 12 141 = some (12, 40) by decide +kernel) h6 h7 ⟨h8, rfl, Or.inr (by decide +kernel)⟩ ?_
  refine w_aload_n cd_134_366 rfl ?_
  refine w_new cd_134_367 (show mt_c 12 144 = some 13 by decide +kernel) (by decide) h9 ?_
  refine w_dup_r cd_134_370 ?_
  exact w_invokespecial cd_134_371 (show mt_m 12 146 = some (135, 3) by decide +kernel) (Or.inr rfl) (by decide) (rest := [.ref (n + 1), .ref l1]) rfl (as := [.ref (n + 1)]) rfl h10 ⟨Nat.le_of_ble_eq_true rfl, Nat.le_of_ble_eq_true rfl, Nat.le_of_ble_eq_true rfl⟩ h11
theorem b_134_374 {d : Nat} {Q : (Option Value ⊕ Nat) → mi_H → Prop} (n sl : Nat) (f : Nat → mi_C) {l1 : Nat} {s2 : Nat} {s3 : Nat} {fs4 : List Value} (h5 : f s3 = .inr (12, fs4)) (h6 : s3 < n) (h7 : 41 < fs4.length) (h8 : n + 1 ≤ mi_NC ∧ sl + 7 ≤ mi_NS) (h9 : n < (n + 1)) (h10 : mi_W d 135 0 (mi_en 1 [.ref n]) [] ((n + 1), (sl + 7), (va_up (va_up f s3 (.inr (12, fs4.set 41 (.ref s2)))) n (.inr (13, mt_df 13)))) (mi_Kc d 134 382 [some (.ref l1)] [.ref n, .ref l1] Q)) : mi_W (d + 1) 134 374 [some (.ref l1)] [.ref s2, .ref s3] (n, sl, f) Q := by
  refine w_putfield (w := .ref s2) cd_134_374 (show mt_f 12 147 = some (12, 41) by decide +kernel) h5 h6 ⟨h7, rfl, Or.inr (by decide +kernel)⟩ ?_
  refine w_aload_n cd_134_377 rfl ?_
  refine w_new cd_134_378 (show mt_c 12 144 = some 13 by decide +kernel) (by decide) h8 ?_
  refine w_dup_r cd_134_381 ?_
  exact w_invokespecial cd_134_382 (show mt_m 12 146 = some (135, 3) by decide +kernel) (Or.inr rfl) (by decide) (rest := [.ref n, .ref l1]) rfl (as := [.ref n]) rfl h9 ⟨Nat.le_of_ble_eq_true rfl, Nat.le_of_ble_eq_true rfl, Nat.le_of_ble_eq_true rfl⟩ h10
theorem b_134_385 {d : Nat} {Q : (Option Value ⊕ Nat) → mi_H → Prop} (n sl : Nat) (f : Nat → mi_C) {l1 : Nat} {s2 : Nat} {s3 : Nat} {fs4 : List Value} {m8 : Nat} {fs11 : List Value} {m15 : Nat} {fs18 : List Value} {m22 : Nat} {fs25 : List Value} (h5 : f s3 = .inr (12, fs4)) (h6 : s3 < n) (h7 : 42 < fs4.length) (h9 : ¬ 2000 < (0 : Int32) ∧ Int32.toNatClampNeg 2000 = m8 ∧ m8 ≤ 1000000) (h10 : n + 1 ≤ mi_NC ∧ sl + m8 ≤ mi_NS) (h12 : (va_up (va_up f s3 (.inr (12, fs4.set 42 (.ref s2)))) n (.inl (0, m8, .inl (fun _ => 0)))) l1 = .inr (12, fs11)) (h13 : l1 < (n + 1)) (h14 : 49 < fs11.length) (h16 : ¬ 2000 < (0 : Int32) ∧ Int32.toNatClampNeg 2000 = m15 ∧ m15 ≤ 1000000) (h17 : (n + 1) + 1 ≤ mi_NC ∧ (sl + m8) + m15 ≤ mi_NS) (h19 : (va_up (va_up (va_up (va_up f s3 (.inr (12, fs4.set 42 (.ref s2)))) n (.inl (0, m8, .inl (fun _ => 0)))) l1 (.inr (12, fs11.set 49 (.ref n)))) (n + 1) (.inl (0, m15, .inl (fun _ => 0)))) l1 = .inr (12, fs18)) (h20 : l1 < ((n + 1) + 1)) (h21 : 50 < fs18.length) (h23 : ¬ 2000 < (0 : Int32) ∧ Int32.toNatClampNeg 2000 = m22 ∧ m22 ≤ 1000000) (h24 : ((n + 1) + 1) + 1 ≤ mi_NC ∧ ((sl + m8) + m15) + m22 ≤ mi_NS) (h26 : (va_up (va_up (va_up (va_up (va_up (va_up f s3 (.inr (12, fs4.set 42 (.ref s2)))) n (.inl (0, m8, .inl (fun _ => 0)))) l1 (.inr (12, fs11.set 49 (.ref n)))) (n + 1) (.inl (0, m15, .inl (fun _ => 0)))) l1 (.inr (12, fs18.set 50 (.ref (n + 1))))) ((n + 1) + 1) (.inl (0, m22, .inl (fun _ => 0)))) l1 = .inr (12, fs25)) (h27 : l1 < (((n + 1) + 1) + 1)) (h28 : 51 < fs25.length) (h29 : mi_W d 134 415 [some (.ref l1)] [] ((((n + 1) + 1) + 1), (((sl + m8) + m15) + m22), (va_up (va_up (va_up (va_up (va_up (va_up (va_up f s3 (.inr (12, fs4.set 42 (.ref s2)))) n (.inl (0, m8, .inl (fun _ => 0)))) l1 (.inr (12, fs11.set 49 (.ref n)))) (n + 1) (.inl (0, m15, .inl (fun _ => 0)))) l1 (.inr (12, fs18.set 50 (.ref (n + 1))))) ((n + 1) + 1) (.inl (0, m22, .inl (fun _ => 0)))) l1 (.inr (12, fs25.set 51 (.ref ((n + 1) + 1)))))) Q) : mi_W d 134 385 [some (.ref l1)] [.ref s2, .ref s3] (n, sl, f) Q := by
  refine w_putfield (w := .ref s2) cd_134_385 (show mt_f 12 151 = some (12, 42) by decide +kernel) h5 h6 ⟨h7, rfl, Or.inr (by decide +kernel)⟩ ?_
  refine w_aload_n cd_134_388 rfl ?_
  refine w_sipush (v := 2000) cd_134_389 (by decide) ?_
  refine w_newarray cd_134_392 rfl h9 h10 ?_
  refine w_putfield (w := .ref n) cd_134_394 (show mt_f 12 154 = some (12, 49) by decide +kernel) h12 h13 ⟨h14, rfl, Or.inr (by decide +kernel)⟩ ?_
  refine w_aload_n cd_134_397 rfl ?_
  refine w_sipush (v := 2000) cd_134_398 (by decide) ?_
  refine w_newarray cd_134_401 rfl h16 h17 ?_
  refine w_putfield (w := .ref (n + 1)) cd_134_403 (show mt_f 12 157 = some (12, 50) by decide +kernel) h19 h20 ⟨h21, rfl, Or.inr (by decide +kernel)⟩ ?_
  refine w_aload_n cd_134_406 rfl ?_
  refine w_sipush (v := 2000) cd_134_407 (by decide) ?_
  refine w_newarray cd_134_410 rfl h23 h24 ?_
  refine w_putfield (w := .ref ((n + 1) + 1)) cd_134_412 (show mt_f 12 160 = some (12, 51) by decide +kernel) h26 h27 ⟨h28, rfl, Or.inr (by decide +kernel)⟩ ?_
  exact h29
theorem b_134_415 {d : Nat} {Q : (Option Value ⊕ Nat) → mi_H → Prop} (n sl : Nat) (f : Nat → mi_C) {l1 : Nat} {m2 : Nat} {fs5 : List Value} {m9 : Nat} {fs12 : List Value} {m16 : Nat} {fs19 : List Value} (h3 : ¬ 2000 < (0 : Int32) ∧ Int32.toNatClampNeg 2000 = m2 ∧ m2 ≤ 1000000) (h4 : n + 1 ≤ mi_NC ∧ sl + m2 ≤ mi_NS) (h6 : (va_up f n (.inl (0, m2, .inl (fun _ => 0)))) l1 = .inr (12, fs5)) (h7 : l1 < (n + 1)) (h8 : 52 < fs5.length) (h10 : ¬ 2000 < (0 : Int32) ∧ Int32.toNatClampNeg 2000 = m9 ∧ m9 ≤ 1000000) (h11 : (n + 1) + 1 ≤ mi_NC ∧ (sl + m2) + m9 ≤ mi_NS) (h13 : (va_up (va_up (va_up f n (.inl (0, m2, .inl (fun _ => 0)))) l1 (.inr (12, fs5.set 52 (.ref n)))) (n + 1) (.inl (0, m9, .inl (fun _ => 0)))) l1 = .inr (12, fs12)) (h14 : l1 < ((n + 1) + 1)) (h15 : 53 < fs12.length) (h17 : ¬ 2000 < (0 : Int32) ∧ Int32.toNatClampNeg 2000 = m16 ∧ m16 ≤ 1000000) (h18 : ((n + 1) + 1) + 1 ≤ mi_NC ∧ ((sl + m2) + m9) + m16 ≤ mi_NS) (h20 : (va_up (va_up (va_up (va_up (va_up f n (.inl (0, m2, .inl (fun _ => 0)))) l1 (.inr (12, fs5.set 52 (.ref n)))) (n + 1) (.inl (0, m9, .inl (fun _ => 0)))) l1 (.inr (12, fs12.set 53 (.ref (n + 1))))) ((n + 1) + 1) (.inl (3, m16, .inr (.inl (fun _ => 0))))) l1 = .inr (12, fs19)) (h21 : l1 < (((n + 1) + 1) + 1)) (h22 : 54 < fs19.length) (h23 : mi_W d 134 442 [some (.ref l1)] [] ((((n + 1) + 1) + 1), (((sl + m2) + m9) + m16), (va_up (va_up (va_up (va_up (va_up (va_up f n (.inl (0, m2, .inl (fun _ => 0)))) l1 (.inr (12, fs5.set 52 (.ref n)))) (n + 1) (.inl (0, m9, .inl (fun _ => 0)))) l1 (.inr (12, fs12.set 53 (.ref (n + 1))))) ((n + 1) + 1) (.inl (3, m16, .inr (.inl (fun _ => 0))))) l1 (.inr (12, fs19.set 54 (.ref ((n + 1) + 1)))))) Q) : mi_W d 134 415 [some (.ref l1)] [] (n, sl, f) Q := by
  refine w_aload_n cd_134_415 rfl ?_
  refine w_sipush (v := 2000) cd_134_416 (by decide) ?_
  refine w_newarray cd_134_419 rfl h3 h4 ?_
  refine w_putfield (w := .ref n) cd_134_421 (show mt_f 12 163 = some (12, 52) by decide +kernel) h6 h7 ⟨h8, rfl, Or.inr (by decide +kernel)⟩ ?_
  refine w_aload_n cd_134_424 rfl ?_
  refine w_sipush (v := 2000) cd_134_425 (by decide) ?_
  refine w_newarray cd_134_428 rfl h10 h11 ?_
  refine w_putfield (w := .ref (n + 1)) cd_134_430 (show mt_f 12 166 = some (12, 53) by decide +kernel) h13 h14 ⟨h15, rfl, Or.inr (by decide +kernel)⟩ ?_
  refine w_aload_n cd_134_433 rfl ?_
  refine w_sipush (v := 2000) cd_134_434 (by decide) ?_
  refine w_newarray cd_134_437 rfl h17 h18 ?_
  refine w_putfield (w := .ref ((n + 1) + 1)) cd_134_439 (show mt_f 12 169 = some (12, 54) by decide +kernel) h20 h21 ⟨h22, rfl, Or.inr (by decide +kernel)⟩ ?_
  exact h23
theorem b_134_442 {d : Nat} {Q : (Option Value ⊕ Nat) → mi_H → Prop} (n sl : Nat) (f : Nat → mi_C) {l1 : Nat} {m2 : Nat} {fs5 : List Value} {m9 : Nat} {fs12 : List Value} {m16 : Nat} {fs19 : List Value} (h3 : ¬ 32 < (0 : Int32) ∧ Int32.toNatClampNeg 32 = m2 ∧ m2 ≤ 1000000) (h4 : n + 1 ≤ mi_NC ∧ sl + m2 ≤ mi_NS) (h6 : (va_up f n (.inl (3, m2, .inr (.inl (fun _ => 0))))) l1 = .inr (12, fs5)) (h7 : l1 < (n + 1)) (h8 : 55 < fs5.length) (h10 : ¬ 32 < (0 : Int32) ∧ Int32.toNatClampNeg 32 = m9 ∧ m9 ≤ 1000000) (h11 : (n + 1) + 1 ≤ mi_NC ∧ (sl + m2) + m9 ≤ mi_NS) (h13 : (va_up (va_up (va_up f n (.inl (3, m2, .inr (.inl (fun _ => 0))))) l1 (.inr (12, fs5.set 55 (.ref n)))) (n + 1) (.inl (3, m9, .inr (.inl (fun _ => 0))))) l1 = .inr (12, fs12)) (h14 : l1 < ((n + 1) + 1)) (h15 : 56 < fs12.length) (h17 : ¬ 16 < (0 : Int32) ∧ Int32.toNatClampNeg 16 = m16 ∧ m16 ≤ 1000000) (h18 : ((n + 1) + 1) + 1 ≤ mi_NC ∧ ((sl + m2) + m9) + m16 ≤ mi_NS) (h20 : (va_up (va_up (va_up (va_up (va_up f n (.inl (3, m2, .inr (.inl (fun _ => 0))))) l1 (.inr (12, fs5.set 55 (.ref n)))) (n + 1) (.inl (3, m9, .inr (.inl (fun _ => 0))))) l1 (.inr (12, fs12.set 56 (.ref (n + 1))))) ((n + 1) + 1) (.inl (0, m16, .inl (fun _ => 0)))) l1 = .inr (12, fs19)) (h21 : l1 < (((n + 1) + 1) + 1)) (h22 : 60 < fs19.length) (h23 : mi_W d 134 466 [some (.ref l1)] [] ((((n + 1) + 1) + 1), (((sl + m2) + m9) + m16), (va_up (va_up (va_up (va_up (va_up (va_up f n (.inl (3, m2, .inr (.inl (fun _ => 0))))) l1 (.inr (12, fs5.set 55 (.ref n)))) (n + 1) (.inl (3, m9, .inr (.inl (fun _ => 0))))) l1 (.inr (12, fs12.set 56 (.ref (n + 1))))) ((n + 1) + 1) (.inl (0, m16, .inl (fun _ => 0)))) l1 (.inr (12, fs19.set 60 (.ref ((n + 1) + 1)))))) Q) : mi_W d 134 442 [some (.ref l1)] [] (n, sl, f) Q := by
  refine w_aload_n cd_134_442 rfl ?_
  refine w_bipush (v := 32) cd_134_443 (by decide) ?_
  refine w_newarray cd_134_445 rfl h3 h4 ?_
  refine w_putfield (w := .ref n) cd_134_447 (show mt_f 12 172 = some (12, 55) by decide +kernel) h6 h7 ⟨h8, rfl, Or.inr (by decide +kernel)⟩ ?_
  refine w_aload_n cd_134_450 rfl ?_
  refine w_bipush (v := 32) cd_134_451 (by decide) ?_
  refine w_newarray cd_134_453 rfl h10 h11 ?_
  refine w_putfield (w := .ref (n + 1)) cd_134_455 (show mt_f 12 175 = some (12, 56) by decide +kernel) h13 h14 ⟨h15, rfl, Or.inr (by decide +kernel)⟩ ?_
  refine w_aload_n cd_134_458 rfl ?_
  refine w_bipush (v := 16) cd_134_459 (by decide) ?_
  refine w_newarray cd_134_461 rfl h17 h18 ?_
  refine w_putfield (w := .ref ((n + 1) + 1)) cd_134_463 (show mt_f 12 178 = some (12, 60) by decide +kernel) h20 h21 ⟨h22, rfl, Or.inr (by decide +kernel)⟩ ?_
  exact h23
theorem b_134_466 {d : Nat} {Q : (Option Value ⊕ Nat) → mi_H → Prop} (n sl : Nat) (f : Nat → mi_C) {l1 : Nat} {m2 : Nat} {fs5 : List Value} {m9 : Nat} {fs12 : List Value} {m16 : Nat} {fs19 : List Value} (h3 : ¬ 16 < (0 : Int32) ∧ Int32.toNatClampNeg 16 = m2 ∧ m2 ≤ 1000000) (h4 : n + 1 ≤ mi_NC ∧ sl + m2 ≤ mi_NS) (h6 : (va_up f n (.inl (0, m2, .inl (fun _ => 0)))) l1 = .inr (12, fs5)) (h7 : l1 < (n + 1)) (h8 : 61 < fs5.length) (h10 : ¬ 16 < (0 : Int32) ∧ Int32.toNatClampNeg 16 = m9 ∧ m9 ≤ 1000000) (h11 : (n + 1) + 1 ≤ mi_NC ∧ (sl + m2) + m9 ≤ mi_NS) (h13 : (va_up (va_up (va_up f n (.inl (0, m2, .inl (fun _ => 0)))) l1 (.inr (12, fs5.set 61 (.ref n)))) (n + 1) (.inl (0, m9, .inl (fun _ => 0)))) l1 = .inr (12, fs12)) (h14 : l1 < ((n + 1) + 1)) (h15 : 62 < fs12.length) (h17 : ¬ 16 < (0 : Int32) ∧ Int32.toNatClampNeg 16 = m16 ∧ m16 ≤ 1000000) (h18 : ((n + 1) + 1) + 1 ≤ mi_NC ∧ ((sl + m2) + m9) + m16 ≤ mi_NS) (h20 : (va_up (va_up (va_up (va_up (va_up f n (.inl (0, m2, .inl (fun _ => 0)))) l1 (.inr (12, fs5.set 61 (.ref n)))) (n + 1) (.inl (0, m9, .inl (fun _ => 0)))) l1 (.inr (12, fs12.set 62 (.ref (n + 1))))) ((n + 1) + 1) (.inl (0, m16, .inl (fun _ => 0)))) l1 = .inr (12, fs19)) (h21 : l1 < (((n + 1) + 1) + 1)) (h22 : 63 < fs19.length) (h23 : mi_W d 134 490 [some (.ref l1)] [] ((((n + 1) + 1) + 1), (((sl + m2) + m9) + m16), (va_up (va_up (va_up (va_up (va_up (va_up f n (.inl (0, m2, .inl (fun _ => 0)))) l1 (.inr (12, fs5.set 61 (.ref n)))) (n + 1) (.inl (0, m9, .inl (fun _ => 0)))) l1 (.inr (12, fs12.set 62 (.ref (n + 1))))) ((n + 1) + 1) (.inl (0, m16, .inl (fun _ => 0)))) l1 (.inr (12, fs19.set 63 (.ref ((n + 1) + 1)))))) Q) : mi_W d 134 466 [some (.ref l1)] [] (n, sl, f) Q := by
  refine w_aload_n cd_134_466 rfl ?_
  refine w_bipush (v := 16) cd_134_467 (by decide) ?_
  refine w_newarray cd_134_469 rfl h3 h4 ?_
  refine w_putfield (w := .ref n) cd_134_471 (show mt_f 12 181 = some (12, 61) by decide +kernel) h6 h7 ⟨h8, rfl, Or.inr (by decide +kernel)⟩ ?_
  refine w_aload_n cd_134_474 rfl ?_
  refine w_bipush (v := 16) cd_134_475 (by decide) ?_
  refine w_newarray cd_134_477 rfl h10 h11 ?_
  refine w_putfield (w := .ref (n + 1)) cd_134_479 (show mt_f 12 184 = some (12, 62) by decide +kernel) h13 h14 ⟨h15, rfl, Or.inr (by decide +kernel)⟩ ?_
  refine w_aload_n cd_134_482 rfl ?_
  refine w_bipush (v := 16) cd_134_483 (by decide) ?_
  refine w_newarray cd_134_485 rfl h17 h18 ?_
  refine w_putfield (w := .ref ((n + 1) + 1)) cd_134_487 (show mt_f 12 187 = some (12, 63) by decide +kernel) h20 h21 ⟨h22, rfl, Or.inr (by decide +kernel)⟩ ?_
  exact h23
theorem b_134_490 {d : Nat} {Q : (Option Value ⊕ Nat) → mi_H → Prop} (n sl : Nat) (f : Nat → mi_C) {l1 : Nat} {m2 : Nat} {fs5 : List Value} {m9 : Nat} {fs12 : List Value} {m16 : Nat} {fs19 : List Value} (h3 : ¬ 16 < (0 : Int32) ∧ Int32.toNatClampNeg 16 = m2 ∧ m2 ≤ 1000000) (h4 : n + 1 ≤ mi_NC ∧ sl + m2 ≤ mi_NS) (h6 : (va_up f n (.inl (3, m2, .inr (.inl (fun _ => 0))))) l1 = .inr (12, fs5)) (h7 : l1 < (n + 1)) (h8 : 64 < fs5.length) (h10 : ¬ 2000 < (0 : Int32) ∧ Int32.toNatClampNeg 2000 = m9 ∧ m9 ≤ 1000000) (h11 : (n + 1) + 1 ≤ mi_NC ∧ (sl + m2) + m9 ≤ mi_NS) (h13 : (va_up (va_up (va_up f n (.inl (3, m2, .inr (.inl (fun _ => 0))))) l1 (.inr (12, fs5.set 64 (.ref n)))) (n + 1) (.inl (0, m9, .inl (fun _ => 0)))) l1 = .inr (12, fs12)) (h14 : l1 < ((n + 1) + 1)) (h15 : 67 < fs12.length) (h17 : ¬ 2000 < (0 : Int32) ∧ Int32.toNatClampNeg 2000 = m16 ∧ m16 ≤ 1000000) (h18 : ((n + 1) + 1) + 1 ≤ mi_NC ∧ ((sl + m2) + m9) + m16 ≤ mi_NS) (h20 : (va_up (va_up (va_up (va_up (va_up f n (.inl (3, m2, .inr (.inl (fun _ => 0))))) l1 (.inr (12, fs5.set 64 (.ref n)))) (n + 1) (.inl (0, m9, .inl (fun _ => 0)))) l1 (.inr (12, fs12.set 67 (.ref (n + 1))))) ((n + 1) + 1) (.inl (0, m16, .inl (fun _ => 0)))) l1 = .inr (12, fs19)) (h21 : l1 < (((n + 1) + 1) + 1)) (h22 : 68 < fs19.length) (h23 : mi_W d 134 516 [some (.ref l1)] [] ((((n + 1) + 1) + 1), (((sl + m2) + m9) + m16), (va_up (va_up (va_up (va_up (va_up (va_up f n (.inl (3, m2, .inr (.inl (fun _ => 0))))) l1 (.inr (12, fs5.set 64 (.ref n)))) (n + 1) (.inl (0, m9, .inl (fun _ => 0)))) l1 (.inr (12, fs12.set 67 (.ref (n + 1))))) ((n + 1) + 1) (.inl (0, m16, .inl (fun _ => 0)))) l1 (.inr (12, fs19.set 68 (.ref ((n + 1) + 1)))))) Q) : mi_W d 134 490 [some (.ref l1)] [] (n, sl, f) Q := by
  refine w_aload_n cd_134_490 rfl ?_
  refine w_bipush (v := 16) cd_134_491 (by decide) ?_
  refine w_newarray cd_134_493 rfl h3 h4 ?_
  refine w_putfield (w := .ref n) cd_134_495 (show mt_f 12 190 = some (12, 64) by decide +kernel) h6 h7 ⟨h8, rfl, Or.inr (by decide +kernel)⟩ ?_
  refine w_aload_n cd_134_498 rfl ?_
  refine w_sipush (v := 2000) cd_134_499 (by decide) ?_
  refine w_newarray cd_134_502 rfl h10 h11 ?_
  refine w_putfield (w := .ref (n + 1)) cd_134_504 (show mt_f 12 193 = some (12, 67) by decide +kernel) h13 h14 ⟨h15, rfl, Or.inr (by decide +kernel)⟩ ?_
  refine w_aload_n cd_134_507 rfl ?_
  refine w_sipush (v := 2000) cd_134_508 (by decide) ?_
  refine w_newarray cd_134_511 rfl h17 h18 ?_
  refine w_putfield (w := .ref ((n + 1) + 1)) cd_134_513 (show mt_f 12 196 = some (12, 68) by decide +kernel) h20 h21 ⟨h22, rfl, Or.inr (by decide +kernel)⟩ ?_
  exact h23
theorem b_134_516 {d : Nat} {Q : (Option Value ⊕ Nat) → mi_H → Prop} (n sl : Nat) (f : Nat → mi_C) {l1 : Nat} {m2 : Nat} {fs5 : List Value} {m9 : Nat} {fs12 : List Value} {m16 : Nat} {fs19 : List Value} (h3 : ¬ 2000 < (0 : Int32) ∧ Int32.toNatClampNeg 2000 = m2 ∧ m2 ≤ 1000000) (h4 : n + 1 ≤ mi_NC ∧ sl + m2 ≤ mi_NS) (h6 : (va_up f n (.inl (0, m2, .inl (fun _ => 0)))) l1 = .inr (12, fs5)) (h7 : l1 < (n + 1)) (h8 : 69 < fs5.length) (h10 : ¬ 2000 < (0 : Int32) ∧ Int32.toNatClampNeg 2000 = m9 ∧ m9 ≤ 1000000) (h11 : (n + 1) + 1 ≤ mi_NC ∧ (sl + m2) + m9 ≤ mi_NS) (h13 : (va_up (va_up (va_up f n (.inl (0, m2, .inl (fun _ => 0)))) l1 (.inr (12, fs5.set 69 (.ref n)))) (n + 1) (.inl (0, m9, .inl (fun _ => 0)))) l1 = .inr (12, fs12)) (h14 : l1 < ((n + 1) + 1)) (h15 : 70 < fs12.length) (h17 : ¬ 2000 < (0 : Int32) ∧ Int32.toNatClampNeg 2000 = m16 ∧ m16 ≤ 1000000) (h18 : ((n + 1) + 1) + 1 ≤ mi_NC ∧ ((sl + m2) + m9) + m16 ≤ mi_NS) (h20 : (va_up (va_up (va_up (va_up (va_up f n (.inl (0, m2, .inl (fun _ => 0)))) l1 (.inr (12, fs5.set 69 (.ref n)))) (n + 1) (.inl (0, m9, .inl (fun _ => 0)))) l1 (.inr (12, fs12.set 70 (.ref (n + 1))))) ((n + 1) + 1) (.inl (0, m16, .inl (fun _ => 0)))) l1 = .inr (12, fs19)) (h21 : l1 < (((n + 1) + 1) + 1)) (h22 : 71 < fs19.length) (h23 : mi_W d 134 543 [some (.ref l1)] [] ((((n + 1) + 1) + 1), (((sl + m2) + m9) + m16), (va_up (va_up (va_up (va_up (va_up (va_up f n (.inl (0, m2, .inl (fun _ => 0)))) l1 (.inr (12, fs5.set 69 (.ref n)))) (n + 1) (.inl (0, m9, .inl (fun _ => 0)))) l1 (.inr (12, fs12.set 70 (.ref (n + 1))))) ((n + 1) + 1) (.inl (0, m16, .inl (fun _ => 0)))) l1 (.inr (12, fs19.set 71 (.ref ((n + 1) + 1)))))) Q) : mi_W d 134 516 [some (.ref l1)] [] (n, sl, f) Q := by
  refine w_aload_n cd_134_516 rfl ?_
  refine w_sipush (v := 2000) cd_134_517 (by decide) ?_
  refine w_newarray cd_134_520 rfl h3 h4 ?_
  refine w_putfield (w := .ref n) cd_134_522 (show mt_f 12 199 = some (12, 69) by decide +kernel) h6 h7 ⟨h8, rfl, Or.inr (by decide +kernel)⟩ ?_
  refine w_aload_n cd_134_525 rfl ?_
  refine w_sipush (v := 2000) cd_134_526 (by decide) ?_
  refine w_newarray cd_134_529 rfl h10 h11 ?_
  refine w_putfield (w := .ref (n + 1)) cd_134_531 (show mt_f 12 202 = some (12, 70) by decide +kernel) h13 h14 ⟨h15, rfl, Or.inr (by decide +kernel)⟩ ?_
  refine w_aload_n cd_134_534 rfl ?_
  refine w_sipush (v := 2000) cd_134_535 (by decide) ?_
  refine w_newarray cd_134_538 rfl h17 h18 ?_
  refine w_putfield (w := .ref ((n + 1) + 1)) cd_134_540 (show mt_f 12 205 = some (12, 71) by decide +kernel) h20 h21 ⟨h22, rfl, Or.inr (by decide +kernel)⟩ ?_
  exact h23
theorem b_134_543 {d : Nat} {Q : (Option Value ⊕ Nat) → mi_H → Prop} (n sl : Nat) (f : Nat → mi_C) {l1 : Nat} {m2 : Nat} {fs5 : List Value} {m9 : Nat} {fs12 : List Value} {m16 : Nat} {fs19 : List Value} (h3 : ¬ 2000 < (0 : Int32) ∧ Int32.toNatClampNeg 2000 = m2 ∧ m2 ≤ 1000000) (h4 : n + 1 ≤ mi_NC ∧ sl + m2 ≤ mi_NS) (h6 : (va_up f n (.inl (3, m2, .inr (.inl (fun _ => 0))))) l1 = .inr (12, fs5)) (h7 : l1 < (n + 1)) (h8 : 72 < fs5.length) (h10 : ¬ 2000 < (0 : Int32) ∧ Int32.toNatClampNeg 2000 = m9 ∧ m9 ≤ 1000000) (h11 : (n + 1) + 1 ≤ mi_NC ∧ (sl + m2) + m9 ≤ mi_NS) (h13 : (va_up (va_up (va_up f n (.inl (3, m2, .inr (.inl (fun _ => 0))))) l1 (.inr (12, fs5.set 72 (.ref n)))) (n + 1) (.inl (0, m9, .inl (fun _ => 0)))) l1 = .inr (12, fs12)) (h14 : l1 < ((n + 1) + 1)) (h15 : 76 < fs12.length) (h17 : ¬ 2000 < (0 : Int32) ∧ Int32.toNatClampNeg 2000 = m16 ∧ m16 ≤ 1000000) (h18 : ((n + 1) + 1) + 1 ≤ mi_NC ∧ ((sl + m2) + m9) + m16 ≤ mi_NS) (h20 : (va_up (va_up (va_up (va_up (va_up f n (.inl (3, m2, .inr (.inl (fun _ => 0))))) l1 (.inr (12, fs5.set 72 (.ref n)))) (n + 1) (.inl (0, m9, .inl (fun _ => 0)))) l1 (.inr (12, fs12.set 76 (.ref (n + 1))))) ((n + 1) + 1) (.inl (0, m16, .inl (fun _ => 0)))) l1 = .inr (12, fs19)) (h21 : l1 < (((n + 1) + 1) + 1)) (h22 : 77 < fs19.length) (h23 : mi_W d 134 570 [some (.ref l1)] [] ((((n + 1) + 1) + 1), (((sl + m2) + m9) + m16), (va_up (va_up (va_up (va_up (va_up (va_up f n (.inl (3, m2, .inr (.inl (fun _ => 0))))) l1 (.inr (12, fs5.set 72 (.ref n)))) (n + 1) (.inl (0, m9, .inl (fun _ => 0)))) l1 (.inr (12, fs12.set 76 (.ref (n + 1))))) ((n + 1) + 1) (.inl (0, m16, .inl (fun _ => 0)))) l1 (.inr (12, fs19.set 77 (.ref ((n + 1) + 1)))))) Q) : mi_W d 134 543 [some (.ref l1)] [] (n, sl, f) Q := by
  refine w_aload_n cd_134_543 rfl ?_
  refine w_sipush (v := 2000) cd_134_544 (by decide) ?_
  refine w_newarray cd_134_547 rfl h3 h4 ?_
  refine w_putfield (w := .ref n) cd_134_549 (show mt_f 12 208 = some (12, 72) by decide +kernel) h6 h7 ⟨h8, rfl, Or.inr (by decide +kernel)⟩ ?_
  refine w_aload_n cd_134_552 rfl ?_
  refine w_sipush (v := 2000) cd_134_553 (by decide) ?_
  refine w_newarray cd_134_556 rfl h10 h11 ?_
  refine w_putfield (w := .ref (n + 1)) cd_134_558 (show mt_f 12 211 = some (12, 76) by decide +kernel) h13 h14 ⟨h15, rfl, Or.inr (by decide +kernel)⟩ ?_
  refine w_aload_n cd_134_561 rfl ?_
  refine w_sipush (v := 2000) cd_134_562 (by decide) ?_
  refine w_newarray cd_134_565 rfl h17 h18 ?_
  refine w_putfield (w := .ref ((n + 1) + 1)) cd_134_567 (show mt_f 12 214 = some (12, 77) by decide +kernel) h20 h21 ⟨h22, rfl, Or.inr (by decide +kernel)⟩ ?_
  exact h23
theorem b_134_570 {d : Nat} {Q : (Option Value ⊕ Nat) → mi_H → Prop} (n sl : Nat) (f : Nat → mi_C) {l1 : Nat} {m2 : Nat} {fs5 : List Value} {m9 : Nat} {fs12 : List Value} {m16 : Nat} {fs19 : List Value} (h3 : ¬ 2000 < (0 : Int32) ∧ Int32.toNatClampNeg 2000 = m2 ∧ m2 ≤ 1000000) (h4 : n + 1 ≤ mi_NC ∧ sl + m2 ≤ mi_NS) (h6 : (va_up f n (.inl (0, m2, .inl (fun _ => 0)))) l1 = .inr (12, fs5)) (h7 : l1 < (n + 1)) (h8 : 78 < fs5.length) (h10 : ¬ 2000 < (0 : Int32) ∧ Int32.toNatClampNeg 2000 = m9 ∧ m9 ≤ 1000000) (h11 : (n + 1) + 1 ≤ mi_NC ∧ (sl + m2) + m9 ≤ mi_NS) (h13 : (va_up (va_up (va_up f n (.inl (0, m2, .inl (fun _ => 0)))) l1 (.inr (12, fs5.set 78 (.ref n)))) (n + 1) (.inl (0, m9, .inl (fun _ => 0)))) l1 = .inr (12, fs12)) (h14 : l1 < ((n + 1) + 1)) (h15 : 79 < fs12.length) (h17 : ¬ 2000 < (0 : Int32) ∧ Int32.toNatClampNeg 2000 = m16 ∧ m16 ≤ 1000000) (h18 : ((n + 1) + 1) + 1 ≤ mi_NC ∧ ((sl + m2) + m9) + m16 ≤ mi_NS) (h20 : (va_up (va_up (va_up (va_up (va_up f n (.inl (0, m2, .inl (fun _ => 0)))) l1 (.inr (12, fs5.set 78 (.ref n)))) (n + 1) (.inl (0, m9, .inl (fun _ => 0)))) l1 (.inr (12, fs12.set 79 (.ref (n + 1))))) ((n + 1) + 1) (.inl (3, m16, .inr (.inl (fun _ => 0))))) l1 = .inr (12, fs19)) (h21 : l1 < (((n + 1) + 1) + 1)) (h22 : 80 < fs19.length) (h23 : mi_W d 134 597 [some (.ref l1)] [] ((((n + 1) + 1) + 1), (((sl + m2) + m9) + m16), (va_up (va_up (va_up (va_up (va_up (va_up f n (.inl (0, m2, .inl (fun _ => 0)))) l1 (.inr (12, fs5.set 78 (.ref n)))) (n + 1) (.inl (0, m9, .inl (fun _ => 0)))) l1 (.inr (12, fs12.set 79 (.ref (n + 1))))) ((n + 1) + 1) (.inl (3, m16, .inr (.inl (fun _ => 0))))) l1 (.inr (12, fs19.set 80 (.ref ((n + 1) + 1)))))) Q) : mi_W d 134 570 [some (.ref l1)] [] (n, sl, f) Q := by
  refine w_aload_n cd_134_570 rfl ?_
  refine w_sipush (v := 2000) cd_134_571 (by decide) ?_
  refine w_newarray cd_134_574 rfl h3 h4 ?_
  refine w_putfield (w := .ref n) cd_134_576 (show mt_f 12 217 = some (12, 78) by decide +kernel) h6 h7 ⟨h8, rfl, Or.inr (by decide +kernel)⟩ ?_
  refine w_aload_n cd_134_579 rfl ?_
  refine w_sipush (v := 2000) cd_134_580 (by decide) ?_
  refine w_newarray cd_134_583 rfl h10 h11 ?_
  refine w_putfield (w := .ref (n + 1)) cd_134_585 (show mt_f 12 220 = some (12, 79) by decide +kernel) h13 h14 ⟨h15, rfl, Or.inr (by decide +kernel)⟩ ?_
  refine w_aload_n cd_134_588 rfl ?_
  refine w_sipush (v := 2000) cd_134_589 (by decide) ?_
  refine w_newarray cd_134_592 rfl h17 h18 ?_
  refine w_putfield (w := .ref ((n + 1) + 1)) cd_134_594 (show mt_f 12 223 = some (12, 80) by decide +kernel) h20 h21 ⟨h22, rfl, Or.inr (by decide +kernel)⟩ ?_
  exact h23
theorem b_134_597 {d : Nat} {Q : (Option Value ⊕ Nat) → mi_H → Prop} (n sl : Nat) (f : Nat → mi_C) {l1 : Nat} {m2 : Nat} {fs5 : List Value} {m9 : Nat} {fs12 : List Value} {m16 : Nat} {fs19 : List Value} (h3 : ¬ 2000 < (0 : Int32) ∧ Int32.toNatClampNeg 2000 = m2 ∧ m2 ≤ 1000000) (h4 : n + 1 ≤ mi_NC ∧ sl + m2 ≤ mi_NS) (h6 : (va_up f n (.inl (3, m2, .inr (.inl (fun _ => 0))))) l1 = .inr (12, fs5)) (h7 : l1 < (n + 1)) (h8 : 81 < fs5.length) (h10 : ¬ 2000 < (0 : Int32) ∧ Int32.toNatClampNeg 2000 = m9 ∧ m9 ≤ 1000000) (h11 : (n + 1) + 1 ≤ mi_NC ∧ (sl + m2) + m9 ≤ mi_NS) (h13 : (va_up (va_up (va_up f n (.inl (3, m2, .inr (.inl (fun _ => 0))))) l1 (.inr (12, fs5.set 81 (.ref n)))) (n + 1) (.inl (6, m9, .inr (.inr (.inr (.inr (fun _ => none))))))) l1 = .inr (12, fs12)) (h14 : l1 < ((n + 1) + 1)) (h15 : 82 < fs12.length) (h17 : ¬ 16 < (0 : Int32) ∧ Int32.toNatClampNeg 16 = m16 ∧ m16 ≤ 1000000) (h18 : ((n + 1) + 1) + 1 ≤ mi_NC ∧ ((sl + m2) + m9) + m16 ≤ mi_NS) (h20 : (va_up (va_up (va_up (va_up (va_up f n (.inl (3, m2, .inr (.inl (fun _ => 0))))) l1 (.inr (12, fs5.set 81 (.ref n)))) (n + 1) (.inl (6, m9, .inr (.inr (.inr (.inr (fun _ => none))))))) l1 (.inr (12, fs12.set 82 (.ref (n + 1))))) ((n + 1) + 1) (.inl (0, m16, .inl (fun _ => 0)))) l1 = .inr (12, fs19)) (h21 : l1 < (((n + 1) + 1) + 1)) (h22 : 83 < fs19.length) (h23 : mi_W d 134 624 [some (.ref l1)] [] ((((n + 1) + 1) + 1), (((sl + m2) + m9) + m16), (va_up (va_up (va_up (va_up (va_up (va_up f n (.inl (3, m2, .inr (.inl (fun _ => 0))))) l1 (.inr (12, fs5.set 81 (.ref n)))) (n + 1) (.inl (6, m9, .inr (.inr (.inr (.inr (fun _ => none))))))) l1 (.inr (12, fs12.set 82 (.ref (n + 1))))) ((n + 1) + 1) (.inl (0, m16, .inl (fun _ => 0)))) l1 (.inr (12, fs19.set 83 (.ref ((n + 1) + 1)))))) Q) : mi_W d 134 597 [some (.ref l1)] [] (n, sl, f) Q := by
  refine w_aload_n cd_134_597 rfl ?_
  refine w_sipush (v := 2000) cd_134_598 (by decide) ?_
  refine w_newarray cd_134_601 rfl h3 h4 ?_
  refine w_putfield (w := .ref n) cd_134_603 (show mt_f 12 226 = some (12, 81) by decide +kernel) h6 h7 ⟨h8, rfl, Or.inr (by decide +kernel)⟩ ?_
  refine w_aload_n cd_134_606 rfl ?_
  refine w_sipush (v := 2000) cd_134_607 (by decide) ?_
  refine w_anewarray cd_134_610 (show mt_c 12 144 = some 13 by decide +kernel) (show mt_ka 13 = some 6 from rfl) h10 h11 ?_
  refine w_putfield (w := .ref (n + 1)) cd_134_613 (show mt_f 12 229 = some (12, 82) by decide +kernel) h13 h14 ⟨h15, rfl, Or.inr (by decide +kernel)⟩ ?_
  refine w_aload_n cd_134_616 rfl ?_
  refine w_bipush (v := 16) cd_134_617 (by decide) ?_
  refine w_newarray cd_134_619 rfl h17 h18 ?_
  refine w_putfield (w := .ref ((n + 1) + 1)) cd_134_621 (show mt_f 12 233 = some (12, 83) by decide +kernel) h20 h21 ⟨h22, rfl, Or.inr (by decide +kernel)⟩ ?_
  exact h23
theorem b_134_624 {d : Nat} {Q : (Option Value ⊕ Nat) → mi_H → Prop} (n sl : Nat) (f : Nat → mi_C) {l1 : Nat} {m2 : Nat} {fs5 : List Value} {m9 : Nat} {fs12 : List Value} {m16 : Nat} {fs19 : List Value} (h3 : ¬ 16 < (0 : Int32) ∧ Int32.toNatClampNeg 16 = m2 ∧ m2 ≤ 1000000) (h4 : n + 1 ≤ mi_NC ∧ sl + m2 ≤ mi_NS) (h6 : (va_up f n (.inl (0, m2, .inl (fun _ => 0)))) l1 = .inr (12, fs5)) (h7 : l1 < (n + 1)) (h8 : 84 < fs5.length) (h10 : ¬ 16 < (0 : Int32) ∧ Int32.toNatClampNeg 16 = m9 ∧ m9 ≤ 1000000) (h11 : (n + 1) + 1 ≤ mi_NC ∧ (sl + m2) + m9 ≤ mi_NS) (h13 : (va_up (va_up (va_up f n (.inl (0, m2, .inl (fun _ => 0)))) l1 (.inr (12, fs5.set 84 (.ref n)))) (n + 1) (.inl (0, m9, .inl (fun _ => 0)))) l1 = .inr (12, fs12)) (h14 : l1 < ((n + 1) + 1)) (h15 : 85 < fs12.length) (h17 : ¬ 16 < (0 : Int32) ∧ Int32.toNatClampNeg 16 = m16 ∧ m16 ≤ 1000000) (h18 : ((n + 1) + 1) + 1 ≤ mi_NC ∧ ((sl + m2) + m9) + m16 ≤ mi_NS) (h20 : (va_up (va_up (va_up (va_up (va_up f n (.inl (0, m2, .inl (fun _ => 0)))) l1 (.inr (12, fs5.set 84 (.ref n)))) (n + 1) (.inl (0, m9, .inl (fun _ => 0)))) l1 (.inr (12, fs12.set 85 (.ref (n + 1))))) ((n + 1) + 1) (.inl (0, m16, .inl (fun _ => 0)))) l1 = .inr (12, fs19)) (h21 : l1 < (((n + 1) + 1) + 1)) (h22 : 86 < fs19.length) (h23 : mi_W d 134 648 [some (.ref l1)] [] ((((n + 1) + 1) + 1), (((sl + m2) + m9) + m16), (va_up (va_up (va_up (va_up (va_up (va_up f n (.inl (0, m2, .inl (fun _ => 0)))) l1 (.inr (12, fs5.set 84 (.ref n)))) (n + 1) (.inl (0, m9, .inl (fun _ => 0)))) l1 (.inr (12, fs12.set 85 (.ref (n + 1))))) ((n + 1) + 1) (.inl (0, m16, .inl (fun _ => 0)))) l1 (.inr (12, fs19.set 86 (.ref ((n + 1) + 1)))))) Q) : mi_W d 134 624 [some (.ref l1)] [] (n, sl, f) Q := by
  refine w_aload_n cd_134_624 rfl ?_
  refine w_bipush (v := 16) cd_134_625 (by decide) ?_
  refine w_newarray cd_134_627 rfl h3 h4 ?_
  refine w_putfield (w := .ref n) cd_134_629 (show mt_f 12 236 = some (12, 84) by decide +kernel) h6 h7 ⟨h8, rfl, Or.inr (by decide +kernel)⟩ ?_
  refine w_aload_n cd_134_632 rfl ?_
  refine w_bipush (v := 16) cd_134_633 (by decide) ?_
  refine w_newarray cd_134_635 rfl h10 h11 ?_
  refine w_putfield (w := .ref (n + 1)) cd_134_637 (show mt_f 12 239 = some (12, 85) by decide +kernel) h13 h14 ⟨h15, rfl, Or.inr (by decide +kernel)⟩ ?_
  refine w_aload_n cd_134_640 rfl ?_
  refine w_bipush (v := 16) cd_134_641 (by decide) ?_
  refine w_newarray cd_134_643 rfl h17 h18 ?_
  refine w_putfield (w := .ref ((n + 1) + 1)) cd_134_645 (show mt_f 12 242 = some (12, 86) by decide +kernel) h20 h21 ⟨h22, rfl, Or.inr (by decide +kernel)⟩ ?_
  exact h23
theorem b_134_648 {d : Nat} {Q : (Option Value ⊕ Nat) → mi_H → Prop} (n sl : Nat) (f : Nat → mi_C) {l1 : Nat} {m2 : Nat} {fs5 : List Value} (h3 : ¬ 16 < (0 : Int32) ∧ Int32.toNatClampNeg 16 = m2 ∧ m2 ≤ 1000000) (h4 : n + 1 ≤ mi_NC ∧ sl + m2 ≤ mi_NS) (h6 : (va_up f n (.inl (3, m2, .inr (.inl (fun _ => 0))))) l1 = .inr (12, fs5)) (h7 : l1 < (n + 1)) (h8 : 87 < fs5.length) (h9 : Q (.inl none) ((n + 1), (sl + m2), (va_up (va_up f n (.inl (3, m2, .inr (.inl (fun _ => 0))))) l1 (.inr (12, fs5.set 87 (.ref n)))))) : mi_W d 134 648 [some (.ref l1)] [] (n, sl, f) Q := by
  refine w_aload_n cd_134_648 rfl ?_
  refine w_bipush (v := 16) cd_134_649 (by decide) ?_
  refine w_newarray cd_134_651 rfl h3 h4 ?_
  refine w_putfield (w := .ref n) cd_134_653 (show mt_f 12 245 = some (12, 87) by decide +kernel) h6 h7 ⟨h8, rfl, Or.inr (by decide +kernel)⟩ ?_
  exact w_return cd_134_656 (by decide +kernel) h9
/-! MarloweHostModel$State.<init>()V -/
set_option maxRecDepth 100000 in
theorem mq_135 : mt_q 135 = my_135 := rfl
set_option maxRecDepth 100000 in
theorem ci_135 : mt_inc 0 my_135.cd = true := by decide +kernel
theorem cd_135_0 : mt_cd 135 0 = some (.aload_n 0) := mt_cd_of (q := (0, .aload_n 0, 1)) mq_135 ci_135 (List.mem_of_getElem? (i := 0) rfl)
theorem cd_135_1 : mt_cd 135 1 = some (.invokespecial 3) := mt_cd_of (q := (1, .invokespecial 3, 3)) mq_135 ci_135 (List.mem_of_getElem? (i := 1) rfl)
theorem cd_135_4 : mt_cd 135 4 = some (.aload_n 0) := mt_cd_of (q := (4, .aload_n 0, 1)) mq_135 ci_135 (List.mem_of_getElem? (i := 2) rfl)
theorem cd_135_5 : mt_cd 135 5 = some (.bipush 32) := mt_cd_of (q := (5, .bipush 32, 2)) mq_135 ci_135 (List.mem_of_getElem? (i := 3) rfl)
theorem cd_135_7 : mt_cd 135 7 = some (.newarray .long) := mt_cd_of (q := (7, .newarray .long, 2)) mq_135 ci_135 (List.mem_of_getElem? (i := 4) rfl)
theorem cd_135_9 : mt_cd 135 9 = some (.putfield 9) := mt_cd_of (q := (9, .putfield 9, 3)) mq_135 ci_135 (List.mem_of_getElem? (i := 5) rfl)
theorem cd_135_12 : mt_cd 135 12 = some (.aload_n 0) := mt_cd_of (q := (12, .aload_n 0, 1)) mq_135 ci_135 (List.mem_of_getElem? (i := 6) rfl)
theorem cd_135_13 : mt_cd 135 13 = some (.bipush 8) := mt_cd_of (q := (13, .bipush 8, 2)) mq_135 ci_135 (List.mem_of_getElem? (i := 7) rfl)
theorem cd_135_15 : mt_cd 135 15 = some (.newarray .long) := mt_cd_of (q := (15, .newarray .long, 2)) mq_135 ci_135 (List.mem_of_getElem? (i := 8) rfl)
theorem cd_135_17 : mt_cd 135 17 = some (.putfield 15) := mt_cd_of (q := (17, .putfield 15, 3)) mq_135 ci_135 (List.mem_of_getElem? (i := 9) rfl)
theorem cd_135_20 : mt_cd 135 20 = some (.aload_n 0) := mt_cd_of (q := (20, .aload_n 0, 1)) mq_135 ci_135 (List.mem_of_getElem? (i := 10) rfl)
theorem cd_135_21 : mt_cd 135 21 = some (.bipush 8) := mt_cd_of (q := (21, .bipush 8, 2)) mq_135 ci_135 (List.mem_of_getElem? (i := 11) rfl)
theorem cd_135_23 : mt_cd 135 23 = some (.newarray .long) := mt_cd_of (q := (23, .newarray .long, 2)) mq_135 ci_135 (List.mem_of_getElem? (i := 12) rfl)
theorem cd_135_25 : mt_cd 135 25 = some (.putfield 18) := mt_cd_of (q := (25, .putfield 18, 3)) mq_135 ci_135 (List.mem_of_getElem? (i := 13) rfl)
theorem cd_135_28 : mt_cd 135 28 = some (.aload_n 0) := mt_cd_of (q := (28, .aload_n 0, 1)) mq_135 ci_135 (List.mem_of_getElem? (i := 14) rfl)
theorem cd_135_29 : mt_cd 135 29 = some (.bipush 8) := mt_cd_of (q := (29, .bipush 8, 2)) mq_135 ci_135 (List.mem_of_getElem? (i := 15) rfl)
theorem cd_135_31 : mt_cd 135 31 = some (.newarray .boolean) := mt_cd_of (q := (31, .newarray .boolean, 2)) mq_135 ci_135 (List.mem_of_getElem? (i := 16) rfl)
theorem cd_135_33 : mt_cd 135 33 = some (.putfield 21) := mt_cd_of (q := (33, .putfield 21, 3)) mq_135 ci_135 (List.mem_of_getElem? (i := 17) rfl)
theorem cd_135_36 : mt_cd 135 36 = some (.aload_n 0) := mt_cd_of (q := (36, .aload_n 0, 1)) mq_135 ci_135 (List.mem_of_getElem? (i := 18) rfl)
theorem cd_135_37 : mt_cd 135 37 = some (.bipush 8) := mt_cd_of (q := (37, .bipush 8, 2)) mq_135 ci_135 (List.mem_of_getElem? (i := 19) rfl)
theorem cd_135_39 : mt_cd 135 39 = some (.newarray .boolean) := mt_cd_of (q := (39, .newarray .boolean, 2)) mq_135 ci_135 (List.mem_of_getElem? (i := 20) rfl)
theorem cd_135_41 : mt_cd 135 41 = some (.putfield 25) := mt_cd_of (q := (41, .putfield 25, 3)) mq_135 ci_135 (List.mem_of_getElem? (i := 21) rfl)
theorem cd_135_44 : mt_cd 135 44 = some (.return_) := mt_cd_of (q := (44, .return_, 1)) mq_135 ci_135 (List.mem_of_getElem? (i := 22) rfl)
theorem b_135_0 {d : Nat} {Q : (Option Value ⊕ Nat) → mi_H → Prop} (n sl : Nat) (f : Nat → mi_C) {l1 : Nat} {m2 : Nat} {fs5 : List Value} {m9 : Nat} {fs12 : List Value} {m16 : Nat} {fs19 : List Value} (h3 : ¬ 32 < (0 : Int32) ∧ Int32.toNatClampNeg 32 = m2 ∧ m2 ≤ 1000000) (h4 : n + 1 ≤ mi_NC ∧ sl + m2 ≤ mi_NS) (h6 : (va_up f n (.inl (3, m2, .inr (.inl (fun _ => 0))))) l1 = .inr (13, fs5)) (h7 : l1 < (n + 1)) (h8 : 2 < fs5.length) (h10 : ¬ 8 < (0 : Int32) ∧ Int32.toNatClampNeg 8 = m9 ∧ m9 ≤ 1000000) (h11 : (n + 1) + 1 ≤ mi_NC ∧ (sl + m2) + m9 ≤ mi_NS) (h13 : (va_up (va_up (va_up f n (.inl (3, m2, .inr (.inl (fun _ => 0))))) l1 (.inr (13, fs5.set 2 (.ref n)))) (n + 1) (.inl (3, m9, .inr (.inl (fun _ => 0))))) l1 = .inr (13, fs12)) (h14 : l1 < ((n + 1) + 1)) (h15 : 3 < fs12.length) (h17 : ¬ 8 < (0 : Int32) ∧ Int32.toNatClampNeg 8 = m16 ∧ m16 ≤ 1000000) (h18 : ((n + 1) + 1) + 1 ≤ mi_NC ∧ ((sl + m2) + m9) + m16 ≤ mi_NS) (h20 : (va_up (va_up (va_up (va_up (va_up f n (.inl (3, m2, .inr (.inl (fun _ => 0))))) l1 (.inr (13, fs5.set 2 (.ref n)))) (n + 1) (.inl (3, m9, .inr (.inl (fun _ => 0))))) l1 (.inr (13, fs12.set 3 (.ref (n + 1))))) ((n + 1) + 1) (.inl (3, m16, .inr (.inl (fun _ => 0))))) l1 = .inr (13, fs19)) (h21 : l1 < (((n + 1) + 1) + 1)) (h22 : 4 < fs19.length) (h23 : mi_W d 135 28 [some (.ref l1)] [] ((((n + 1) + 1) + 1), (((sl + m2) + m9) + m16), (va_up (va_up (va_up (va_up (va_up (va_up f n (.inl (3, m2, .inr (.inl (fun _ => 0))))) l1 (.inr (13, fs5.set 2 (.ref n)))) (n + 1) (.inl (3, m9, .inr (.inl (fun _ => 0))))) l1 (.inr (13, fs12.set 3 (.ref (n + 1))))) ((n + 1) + 1) (.inl (3, m16, .inr (.inl (fun _ => 0))))) l1 (.inr (13, fs19.set 4 (.ref ((n + 1) + 1)))))) Q) : mi_W d 135 0 [some (.ref l1)] [] (n, sl, f) Q := by
  refine w_aload_n cd_135_0 rfl ?_
  refine w_oinit cd_135_1 (by decide) (Nat.le_of_ble_eq_true rfl) ?_
  refine w_aload_n cd_135_4 rfl ?_
  refine w_bipush (v := 32) cd_135_5 (by decide) ?_
  refine w_newarray cd_135_7 rfl h3 h4 ?_
  refine w_putfield (w := .ref n) cd_135_9 (show mt_f 13 9 = some (13, 2) by decide +kernel) h6 h7 ⟨h8, rfl, Or.inr (by decide +kernel)⟩ ?_
  refine w_aload_n cd_135_12 rfl ?_
  refine w_bipush (v := 8) cd_135_13 (by decide) ?_
  refine w_newarray cd_135_15 rfl h10 h11 ?_
  refine w_putfield (w := .ref (n + 1)) cd_135_17 (show mt_f 13 15 = some (13, 3) by decide +kernel) h13 h14 ⟨h15, rfl, Or.inr (by decide +kernel)⟩ ?_
  refine w_aload_n cd_135_20 rfl ?_
  refine w_bipush (v := 8) cd_135_21 (by decide) ?_
  refine w_newarray cd_135_23 rfl h17 h18 ?_
  refine w_putfield (w := .ref ((n + 1) + 1)) cd_135_25 (show mt_f 13 18 = some (13, 4) by decide +kernel) h20 h21 ⟨h22, rfl, Or.inr (by decide +kernel)⟩ ?_
  exact h23
theorem b_135_28 {d : Nat} {Q : (Option Value ⊕ Nat) → mi_H → Prop} (n sl : Nat) (f : Nat → mi_C) {l1 : Nat} {m2 : Nat} {fs5 : List Value} {m9 : Nat} {fs12 : List Value} (h3 : ¬ 8 < (0 : Int32) ∧ Int32.toNatClampNeg 8 = m2 ∧ m2 ≤ 1000000) (h4 : n + 1 ≤ mi_NC ∧ sl + m2 ≤ mi_NS) (h6 : (va_up f n (.inl (2, m2, .inl (fun _ => 0)))) l1 = .inr (13, fs5)) (h7 : l1 < (n + 1)) (h8 : 5 < fs5.length) (h10 : ¬ 8 < (0 : Int32) ∧ Int32.toNatClampNeg 8 = m9 ∧ m9 ≤ 1000000) (h11 : (n + 1) + 1 ≤ mi_NC ∧ (sl + m2) + m9 ≤ mi_NS) (h13 : (va_up (va_up (va_up f n (.inl (2, m2, .inl (fun _ => 0)))) l1 (.inr (13, fs5.set 5 (.ref n)))) (n + 1) (.inl (2, m9, .inl (fun _ => 0)))) l1 = .inr (13, fs12)) (h14 : l1 < ((n + 1) + 1)) (h15 : 6 < fs12.length) (h16 : Q (.inl none) (((n + 1) + 1), ((sl + m2) + m9), (va_up (va_up (va_up (va_up f n (.inl (2, m2, .inl (fun _ => 0)))) l1 (.inr (13, fs5.set 5 (.ref n)))) (n + 1) (.inl (2, m9, .inl (fun _ => 0)))) l1 (.inr (13, fs12.set 6 (.ref (n + 1))))))) : mi_W d 135 28 [some (.ref l1)] [] (n, sl, f) Q := by
  refine w_aload_n cd_135_28 rfl ?_
  refine w_bipush (v := 8) cd_135_29 (by decide) ?_
  refine w_newarray cd_135_31 rfl h3 h4 ?_
  refine w_putfield (w := .ref n) cd_135_33 (show mt_f 13 21 = some (13, 5) by decide +kernel) h6 h7 ⟨h8, rfl, Or.inr (by decide +kernel)⟩ ?_
  refine w_aload_n cd_135_36 rfl ?_
  refine w_bipush (v := 8) cd_135_37 (by decide) ?_
  refine w_newarray cd_135_39 rfl h10 h11 ?_
  refine w_putfield (w := .ref (n + 1)) cd_135_41 (show mt_f 13 25 = some (13, 6) by decide +kernel) h13 h14 ⟨h15, rfl, Or.inr (by decide +kernel)⟩ ?_
  exact w_return cd_135_44 (by decide +kernel) h16
/-! MarloweHostModel.thrown()I -/
set_option maxRecDepth 100000 in
theorem mq_136 : mt_q 136 = my_136 := rfl
set_option maxRecDepth 100000 in
theorem ci_136 : mt_inc 0 my_136.cd = true := by decide +kernel
theorem cd_136_0 : mt_cd 136 0 = some (.aload_n 0) := mt_cd_of (q := (0, .aload_n 0, 1)) mq_136 ci_136 (List.mem_of_getElem? (i := 0) rfl)
theorem cd_136_1 : mt_cd 136 1 = some (.getfield 248) := mt_cd_of (q := (1, .getfield 248, 3)) mq_136 ci_136 (List.mem_of_getElem? (i := 1) rfl)
theorem cd_136_4 : mt_cd 136 4 = some (.ireturn) := mt_cd_of (q := (4, .ireturn, 1)) mq_136 ci_136 (List.mem_of_getElem? (i := 2) rfl)
theorem b_136_0 {d : Nat} {Q : (Option Value ⊕ Nat) → mi_H → Prop} (n sl : Nat) (f : Nat → mi_C) {l1 : Nat} {fs2 : List Value} {x5 : Int32} (h3 : f l1 = .inr (12, fs2)) (h4 : l1 < n) (h6 : fs2[0]? = some (.int x5)) (h7 : Q (.inl (some (.int x5))) (n, sl, f)) : mi_W d 136 0 [some (.ref l1)] [] (n, sl, f) Q := by
  refine w_aload_n cd_136_0 rfl ?_
  refine w_getfield cd_136_1 (show mt_f 12 248 = some (12, 0) by decide +kernel) h3 h4 h6 ?_
  exact w_ireturn_i cd_136_4 (by decide +kernel) h7
/-! MarloweHostModel.feed(IIIII)I -/
set_option maxRecDepth 100000 in
theorem mq_137 : mt_q 137 = my_137 := rfl
set_option maxRecDepth 100000 in
theorem ci_137 : mt_inc 0 my_137.cd = true := by decide +kernel
theorem cd_137_0 : mt_cd 137 0 = some (.aload_n 0) := mt_cd_of (q := (0, .aload_n 0, 1)) mq_137 ci_137 (List.mem_of_getElem? (i := 0) rfl)
theorem cd_137_1 : mt_cd 137 1 = some (.iconst 0) := mt_cd_of (q := (1, .iconst 0, 1)) mq_137 ci_137 (List.mem_of_getElem? (i := 1) rfl)
theorem cd_137_2 : mt_cd 137 2 = some (.putfield 248) := mt_cd_of (q := (2, .putfield 248, 3)) mq_137 ci_137 (List.mem_of_getElem? (i := 2) rfl)
theorem cd_137_5 : mt_cd 137 5 = some (.aload_n 0) := mt_cd_of (q := (5, .aload_n 0, 1)) mq_137 ci_137 (List.mem_of_getElem? (i := 3) rfl)
theorem cd_137_6 : mt_cd 137 6 = some (.aload_n 0) := mt_cd_of (q := (6, .aload_n 0, 1)) mq_137 ci_137 (List.mem_of_getElem? (i := 4) rfl)
theorem cd_137_7 : mt_cd 137 7 = some (.getfield 251) := mt_cd_of (q := (7, .getfield 251, 3)) mq_137 ci_137 (List.mem_of_getElem? (i := 5) rfl)
theorem cd_137_10 : mt_cd 137 10 = some (.bipush 20) := mt_cd_of (q := (10, .bipush 20, 2)) mq_137 ci_137 (List.mem_of_getElem? (i := 6) rfl)
theorem cd_137_12 : mt_cd 137 12 = some (.iadd) := mt_cd_of (q := (12, .iadd, 1)) mq_137 ci_137 (List.mem_of_getElem? (i := 7) rfl)
theorem cd_137_13 : mt_cd 137 13 = some (.sipush 8200) := mt_cd_of (q := (13, .sipush 8200, 3)) mq_137 ci_137 (List.mem_of_getElem? (i := 8) rfl)
theorem cd_137_16 : mt_cd 137 16 = some (.if_icmp .le 7) := mt_cd_of (q := (16, .if_icmp .le 7, 3)) mq_137 ci_137 (List.mem_of_getElem? (i := 9) rfl)
theorem cd_137_19 : mt_cd 137 19 = some (.iconst 1) := mt_cd_of (q := (19, .iconst 1, 1)) mq_137 ci_137 (List.mem_of_getElem? (i := 10) rfl)
theorem cd_137_20 : mt_cd 137 20 = some (.goto 4) := mt_cd_of (q := (20, .goto 4, 3)) mq_137 ci_137 (List.mem_of_getElem? (i := 11) rfl)
theorem cd_137_23 : mt_cd 137 23 = some (.iconst 0) := mt_cd_of (q := (23, .iconst 0, 1)) mq_137 ci_137 (List.mem_of_getElem? (i := 12) rfl)
theorem cd_137_24 : mt_cd 137 24 = some (.iconst 1) := mt_cd_of (q := (24, .iconst 1, 1)) mq_137 ci_137 (List.mem_of_getElem? (i := 13) rfl)
theorem cd_137_25 : mt_cd 137 25 = some (.invokevirtual 254) := mt_cd_of (q := (25, .invokevirtual 254, 3)) mq_137 ci_137 (List.mem_of_getElem? (i := 14) rfl)
theorem cd_137_28 : mt_cd 137 28 = some (.ifCond .eq 5) := mt_cd_of (q := (28, .ifCond .eq 5, 3)) mq_137 ci_137 (List.mem_of_getElem? (i := 15) rfl)
theorem cd_137_31 : mt_cd 137 31 = some (.iconst 0) := mt_cd_of (q := (31, .iconst 0, 1)) mq_137 ci_137 (List.mem_of_getElem? (i := 16) rfl)
theorem cd_137_32 : mt_cd 137 32 = some (.ireturn) := mt_cd_of (q := (32, .ireturn, 1)) mq_137 ci_137 (List.mem_of_getElem? (i := 17) rfl)
theorem cd_137_33 : mt_cd 137 33 = some (.iconst 0) := mt_cd_of (q := (33, .iconst 0, 1)) mq_137 ci_137 (List.mem_of_getElem? (i := 18) rfl)
theorem cd_137_34 : mt_cd 137 34 = some (.istore 6) := mt_cd_of (q := (34, .istore 6, 2)) mq_137 ci_137 (List.mem_of_getElem? (i := 19) rfl)
theorem cd_137_36 : mt_cd 137 36 = some (.iload 6) := mt_cd_of (q := (36, .iload 6, 2)) mq_137 ci_137 (List.mem_of_getElem? (i := 20) rfl)
theorem cd_137_38 : mt_cd 137 38 = some (.bipush 20) := mt_cd_of (q := (38, .bipush 20, 2)) mq_137 ci_137 (List.mem_of_getElem? (i := 21) rfl)
theorem cd_137_40 : mt_cd 137 40 = some (.if_icmp .ge 90) := mt_cd_of (q := (40, .if_icmp .ge 90, 3)) mq_137 ci_137 (List.mem_of_getElem? (i := 22) rfl)
theorem cd_137_43 : mt_cd 137 43 = some (.iload 6) := mt_cd_of (q := (43, .iload 6, 2)) mq_137 ci_137 (List.mem_of_getElem? (i := 23) rfl)
theorem cd_137_45 : mt_cd 137 45 = some (.iconst 4) := mt_cd_of (q := (45, .iconst 4, 1)) mq_137 ci_137 (List.mem_of_getElem? (i := 24) rfl)
theorem cd_137_46 : mt_cd 137 46 = some (.if_icmp .ge 7) := mt_cd_of (q := (46, .if_icmp .ge 7, 3)) mq_137 ci_137 (List.mem_of_getElem? (i := 25) rfl)
theorem cd_137_49 : mt_cd 137 49 = some (.iload_n 1) := mt_cd_of (q := (49, .iload_n 1, 1)) mq_137 ci_137 (List.mem_of_getElem? (i := 26) rfl)
theorem cd_137_50 : mt_cd 137 50 = some (.goto 39) := mt_cd_of (q := (50, .goto 39, 3)) mq_137 ci_137 (List.mem_of_getElem? (i := 27) rfl)
theorem cd_137_53 : mt_cd 137 53 = some (.iload 6) := mt_cd_of (q := (53, .iload 6, 2)) mq_137 ci_137 (List.mem_of_getElem? (i := 28) rfl)
theorem cd_137_55 : mt_cd 137 55 = some (.bipush 8) := mt_cd_of (q := (55, .bipush 8, 2)) mq_137 ci_137 (List.mem_of_getElem? (i := 29) rfl)
theorem cd_137_57 : mt_cd 137 57 = some (.if_icmp .ge 7) := mt_cd_of (q := (57, .if_icmp .ge 7, 3)) mq_137 ci_137 (List.mem_of_getElem? (i := 30) rfl)
theorem cd_137_60 : mt_cd 137 60 = some (.iload_n 2) := mt_cd_of (q := (60, .iload_n 2, 1)) mq_137 ci_137 (List.mem_of_getElem? (i := 31) rfl)
theorem cd_137_61 : mt_cd 137 61 = some (.goto 28) := mt_cd_of (q := (61, .goto 28, 3)) mq_137 ci_137 (List.mem_of_getElem? (i := 32) rfl)
theorem cd_137_64 : mt_cd 137 64 = some (.iload 6) := mt_cd_of (q := (64, .iload 6, 2)) mq_137 ci_137 (List.mem_of_getElem? (i := 33) rfl)
theorem cd_137_66 : mt_cd 137 66 = some (.bipush 12) := mt_cd_of (q := (66, .bipush 12, 2)) mq_137 ci_137 (List.mem_of_getElem? (i := 34) rfl)
theorem cd_137_68 : mt_cd 137 68 = some (.if_icmp .ge 7) := mt_cd_of (q := (68, .if_icmp .ge 7, 3)) mq_137 ci_137 (List.mem_of_getElem? (i := 35) rfl)
theorem cd_137_71 : mt_cd 137 71 = some (.iload_n 3) := mt_cd_of (q := (71, .iload_n 3, 1)) mq_137 ci_137 (List.mem_of_getElem? (i := 36) rfl)
theorem cd_137_72 : mt_cd 137 72 = some (.goto 17) := mt_cd_of (q := (72, .goto 17, 3)) mq_137 ci_137 (List.mem_of_getElem? (i := 37) rfl)
theorem cd_137_75 : mt_cd 137 75 = some (.iload 6) := mt_cd_of (q := (75, .iload 6, 2)) mq_137 ci_137 (List.mem_of_getElem? (i := 38) rfl)
theorem cd_137_77 : mt_cd 137 77 = some (.bipush 16) := mt_cd_of (q := (77, .bipush 16, 2)) mq_137 ci_137 (List.mem_of_getElem? (i := 39) rfl)
theorem cd_137_79 : mt_cd 137 79 = some (.if_icmp .ge 8) := mt_cd_of (q := (79, .if_icmp .ge 8, 3)) mq_137 ci_137 (List.mem_of_getElem? (i := 40) rfl)
theorem cd_137_82 : mt_cd 137 82 = some (.iload 4) := mt_cd_of (q := (82, .iload 4, 2)) mq_137 ci_137 (List.mem_of_getElem? (i := 41) rfl)
theorem cd_137_84 : mt_cd 137 84 = some (.goto 5) := mt_cd_of (q := (84, .goto 5, 3)) mq_137 ci_137 (List.mem_of_getElem? (i := 42) rfl)
theorem cd_137_87 : mt_cd 137 87 = some (.iload 5) := mt_cd_of (q := (87, .iload 5, 2)) mq_137 ci_137 (List.mem_of_getElem? (i := 43) rfl)
theorem cd_137_89 : mt_cd 137 89 = some (.istore 7) := mt_cd_of (q := (89, .istore 7, 2)) mq_137 ci_137 (List.mem_of_getElem? (i := 44) rfl)
theorem cd_137_91 : mt_cd 137 91 = some (.aload_n 0) := mt_cd_of (q := (91, .aload_n 0, 1)) mq_137 ci_137 (List.mem_of_getElem? (i := 45) rfl)
theorem cd_137_92 : mt_cd 137 92 = some (.getfield 16) := mt_cd_of (q := (92, .getfield 16, 3)) mq_137 ci_137 (List.mem_of_getElem? (i := 46) rfl)
theorem cd_137_95 : mt_cd 137 95 = some (.aload_n 0) := mt_cd_of (q := (95, .aload_n 0, 1)) mq_137 ci_137 (List.mem_of_getElem? (i := 47) rfl)
theorem cd_137_96 : mt_cd 137 96 = some (.dup) := mt_cd_of (q := (96, .dup, 1)) mq_137 ci_137 (List.mem_of_getElem? (i := 48) rfl)
theorem cd_137_97 : mt_cd 137 97 = some (.getfield 251) := mt_cd_of (q := (97, .getfield 251, 3)) mq_137 ci_137 (List.mem_of_getElem? (i := 49) rfl)
theorem cd_137_100 : mt_cd 137 100 = some (.dup_x1) := mt_cd_of (q := (100, .dup_x1, 1)) mq_137 ci_137 (List.mem_of_getElem? (i := 50) rfl)
theorem cd_137_101 : mt_cd 137 101 = some (.iconst 1) := mt_cd_of (q := (101, .iconst 1, 1)) mq_137 ci_137 (List.mem_of_getElem? (i := 51) rfl)
theorem cd_137_102 : mt_cd 137 102 = some (.iadd) := mt_cd_of (q := (102, .iadd, 1)) mq_137 ci_137 (List.mem_of_getElem? (i := 52) rfl)
theorem cd_137_103 : mt_cd 137 103 = some (.putfield 251) := mt_cd_of (q := (103, .putfield 251, 3)) mq_137 ci_137 (List.mem_of_getElem? (i := 53) rfl)
theorem cd_137_106 : mt_cd 137 106 = some (.iload 7) := mt_cd_of (q := (106, .iload 7, 2)) mq_137 ci_137 (List.mem_of_getElem? (i := 54) rfl)
theorem cd_137_108 : mt_cd 137 108 = some (.bipush 24) := mt_cd_of (q := (108, .bipush 24, 2)) mq_137 ci_137 (List.mem_of_getElem? (i := 55) rfl)
theorem cd_137_110 : mt_cd 137 110 = some (.bipush 8) := mt_cd_of (q := (110, .bipush 8, 2)) mq_137 ci_137 (List.mem_of_getElem? (i := 56) rfl)
theorem cd_137_112 : mt_cd 137 112 = some (.iload 6) := mt_cd_of (q := (112, .iload 6, 2)) mq_137 ci_137 (List.mem_of_getElem? (i := 57) rfl)
theorem cd_137_114 : mt_cd 137 114 = some (.iconst 3) := mt_cd_of (q := (114, .iconst 3, 1)) mq_137 ci_137 (List.mem_of_getElem? (i := 58) rfl)
theorem cd_137_115 : mt_cd 137 115 = some (.iand) := mt_cd_of (q := (115, .iand, 1)) mq_137 ci_137 (List.mem_of_getElem? (i := 59) rfl)
theorem cd_137_116 : mt_cd 137 116 = some (.imul) := mt_cd_of (q := (116, .imul, 1)) mq_137 ci_137 (List.mem_of_getElem? (i := 60) rfl)
theorem cd_137_117 : mt_cd 137 117 = some (.isub) := mt_cd_of (q := (117, .isub, 1)) mq_137 ci_137 (List.mem_of_getElem? (i := 61) rfl)
theorem cd_137_118 : mt_cd 137 118 = some (.iushr) := mt_cd_of (q := (118, .iushr, 1)) mq_137 ci_137 (List.mem_of_getElem? (i := 62) rfl)
theorem cd_137_119 : mt_cd 137 119 = some (.sipush 255) := mt_cd_of (q := (119, .sipush 255, 3)) mq_137 ci_137 (List.mem_of_getElem? (i := 63) rfl)
theorem cd_137_122 : mt_cd 137 122 = some (.iand) := mt_cd_of (q := (122, .iand, 1)) mq_137 ci_137 (List.mem_of_getElem? (i := 64) rfl)
theorem cd_137_123 : mt_cd 137 123 = some (.iastore) := mt_cd_of (q := (123, .iastore, 1)) mq_137 ci_137 (List.mem_of_getElem? (i := 65) rfl)
theorem cd_137_124 : mt_cd 137 124 = some (.iinc 6 1) := mt_cd_of (q := (124, .iinc 6 1, 3)) mq_137 ci_137 (List.mem_of_getElem? (i := 66) rfl)
theorem cd_137_127 : mt_cd 137 127 = some (.goto (-91)) := mt_cd_of (q := (127, .goto (-91), 3)) mq_137 ci_137 (List.mem_of_getElem? (i := 67) rfl)
theorem cd_137_130 : mt_cd 137 130 = some (.aload_n 0) := mt_cd_of (q := (130, .aload_n 0, 1)) mq_137 ci_137 (List.mem_of_getElem? (i := 68) rfl)
theorem cd_137_131 : mt_cd 137 131 = some (.getfield 251) := mt_cd_of (q := (131, .getfield 251, 3)) mq_137 ci_137 (List.mem_of_getElem? (i := 69) rfl)
theorem cd_137_134 : mt_cd 137 134 = some (.ireturn) := mt_cd_of (q := (134, .ireturn, 1)) mq_137 ci_137 (List.mem_of_getElem? (i := 70) rfl)
theorem b_137_0 {d : Nat} {Q : (Option Value ⊕ Nat) → mi_H → Prop} (n sl : Nat) (f : Nat → mi_C) {l1 : Nat} {l2 : Int32} {l3 : Int32} {l4 : Int32} {l5 : Int32} {l6 : Int32} {o7 : Option Value} {o8 : Option Value} {fs9 : List Value} {fs13 : List Value} {x16 : Int32} (h10 : f l1 = .inr (12, fs9)) (h11 : l1 < n) (h12 : 0 < fs9.length) (h14 : (va_up f l1 (.inr (12, fs9.set 0 (.int 0)))) l1 = .inr (12, fs13)) (h15 : l1 < n) (h17 : fs13[1]? = some (.int x16)) (h18 : (x16 + 20) ≤ 8200 → mi_W d 137 23 [some (.ref l1), some (.int l2), some (.int l3), some (.int l4), some (.int l5), some (.int l6), o7, o8] [.ref l1] (n, sl, (va_up f l1 (.inr (12, fs9.set 0 (.int 0))))) Q) (h19 : ¬ ((x16 + 20) ≤ 8200) → mi_W d 137 19 [some (.ref l1), some (.int l2), some (.int l3), some (.int l4), some (.int l5), some (.int l6), o7, o8] [.ref l1] (n, sl, (va_up f l1 (.inr (12, fs9.set 0 (.int 0))))) Q) : mi_W d 137 0 [some (.ref l1), some (.int l2), some (.int l3), some (.int l4), some (.int l5), some (.int l6), o7, o8] [] (n, sl, f) Q := by
  refine w_aload_n cd_137_0 rfl ?_
  refine w_iconst (v := 0) cd_137_1 (by decide) ?_
  refine w_putfield (w := .int 0) cd_137_2 (show mt_f 12 248 = some (12, 0) by decide +kernel) h10 h11 ⟨h12, rfl, Or.inl (by decide)⟩ ?_
  refine w_aload_n cd_137_5 rfl ?_
  refine w_aload_n cd_137_6 rfl ?_
  refine w_getfield cd_137_7 (show mt_f 12 251 = some (12, 1) by decide +kernel) h14 h15 h17 ?_
  refine w_bipush (v := 20) cd_137_10 (by decide) ?_
  refine w_iadd cd_137_12 ?_
  refine w_sipush (v := 8200) cd_137_13 (by decide) ?_
  exact w_if_icmple cd_137_16 (by decide) h18 h19
theorem b_137_19 {d : Nat} {Q : (Option Value ⊕ Nat) → mi_H → Prop} (n sl : Nat) (f : Nat → mi_C) {l1 : Nat} {l2 : Int32} {l3 : Int32} {l4 : Int32} {l5 : Int32} {l6 : Int32} {o7 : Option Value} {o8 : Option Value} {s9 : Nat} (h10 : mi_W d 137 24 [some (.ref l1), some (.int l2), some (.int l3), some (.int l4), some (.int l5), some (.int l6), o7, o8] [.int 1, .ref s9] (n, sl, f) Q) : mi_W d 137 19 [some (.ref l1), some (.int l2), some (.int l3), some (.int l4), some (.int l5), some (.int l6), o7, o8] [.ref s9] (n, sl, f) Q := by
  refine w_iconst (v := 1) cd_137_19 (by decide) ?_
  exact w_goto cd_137_20 (by decide) h10
theorem b_137_23 {d : Nat} {Q : (Option Value ⊕ Nat) → mi_H → Prop} (n sl : Nat) (f : Nat → mi_C) {l1 : Nat} {l2 : Int32} {l3 : Int32} {l4 : Int32} {l5 : Int32} {l6 : Int32} {o7 : Option Value} {o8 : Option Value} {s9 : Nat} (h10 : mi_W d 137 24 [some (.ref l1), some (.int l2), some (.int l3), some (.int l4), some (.int l5), some (.int l6), o7, o8] [.int 0, .ref s9] (n, sl, f) Q) : mi_W d 137 23 [some (.ref l1), some (.int l2), some (.int l3), some (.int l4), some (.int l5), some (.int l6), o7, o8] [.ref s9] (n, sl, f) Q := by
  refine w_iconst (v := 0) cd_137_23 (by decide) ?_
  exact h10
theorem b_137_24 {d : Nat} {Q : (Option Value ⊕ Nat) → mi_H → Prop} (n sl : Nat) (f : Nat → mi_C) {l1 : Nat} {l2 : Int32} {l3 : Int32} {l4 : Int32} {l5 : Int32} {l6 : Int32} {o7 : Option Value} {o8 : Option Value} {s9 : Int32} {s10 : Nat} {fs11 : List Value} (h12 : f s10 = .inr (12, fs11)) (h13 : s10 < n) (h14 : mi_W d 138 0 (mi_en 3 [.ref s10, .int s9, .int 1]) [] (n, sl, f) (mi_Kc d 137 25 [some (.ref l1), some (.int l2), some (.int l3), some (.int l4), some (.int l5), some (.int l6), o7, o8] [] Q)) : mi_W (d + 1) 137 24 [some (.ref l1), some (.int l2), some (.int l3), some (.int l4), some (.int l5), some (.int l6), o7, o8] [.int s9, .ref s10] (n, sl, f) Q := by
  refine w_iconst (v := 1) cd_137_24 (by decide) ?_
  exact w_invokevirtual cd_137_25 (show mt_m 12 254 = some (138, 0) by decide +kernel) (rest := []) rfl (as := [.ref s10, .int s9, .int 1]) rfl h12 (Or.inl h13) ⟨Nat.le_of_ble_eq_true rfl, Nat.le_of_ble_eq_true rfl, Nat.le_of_ble_eq_true rfl⟩ h14
theorem b_137_28 {d : Nat} {Q : (Option Value ⊕ Nat) → mi_H → Prop} (n sl : Nat) (f : Nat → mi_C) {l1 : Nat} {l2 : Int32} {l3 : Int32} {l4 : Int32} {l5 : Int32} {l6 : Int32} {o7 : Option Value} {o8 : Option Value} {s9 : Int32} (h10 : s9 = (0 : Int32) → mi_W d 137 33 [some (.ref l1), some (.int l2), some (.int l3), some (.int l4), some (.int l5), some (.int l6), o7, o8] [] (n, sl, f) Q) (h11 : ¬ (s9 = (0 : Int32)) → mi_W d 137 31 [some (.ref l1), some (.int l2), some (.int l3), some (.int l4), some (.int l5), some (.int l6), o7, o8] [] (n, sl, f) Q) : mi_W d 137 28 [some (.ref l1), some (.int l2), some (.int l3), some (.int l4), some (.int l5), some (.int l6), o7, o8] [.int s9] (n, sl, f) Q := by
  exact w_ifeq cd_137_28 (by decide) h10 h11
theorem b_137_31 {d : Nat} {Q : (Option Value ⊕ Nat) → mi_H → Prop} (n sl : Nat) (f : Nat → mi_C) {l1 : Nat} {l2 : Int32} {l3 : Int32} {l4 : Int32} {l5 : Int32} {l6 : Int32} {o7 : Option Value} {o8 : Option Value} (h9 : Q (.inl (some (.int 0))) (n, sl, f)) : mi_W d 137 31 [some (.ref l1), some (.int l2), some (.int l3), some (.int l4), some (.int l5), some (.int l6), o7, o8] [] (n, sl, f) Q := by
  refine w_iconst (v := 0) cd_137_31 (by decide) ?_
  exact w_ireturn_i cd_137_32 (by decide +kernel) h9
theorem b_137_33 {d : Nat} {Q : (Option Value ⊕ Nat) → mi_H → Prop} (n sl : Nat) (f : Nat → mi_C) {l1 : Nat} {l2 : Int32} {l3 : Int32} {l4 : Int32} {l5 : Int32} {l6 : Int32} {o7 : Option Value} {o8 : Option Value} (h9 : mi_W d 137 36 [some (.ref l1), some (.int l2), some (.int l3), some (.int l4), some (.int l5), some (.int l6), some (.int 0), o8] [] (n, sl, f) Q) : mi_W d 137 33 [some (.ref l1), some (.int l2), some (.int l3), some (.int l4), some (.int l5), some (.int l6), o7, o8] [] (n, sl, f) Q := by
  refine w_iconst (v := 0) cd_137_33 (by decide) ?_
  refine w_istore (ls' := [some (.ref l1), some (.int l2), some (.int l3), some (.int l4), some (.int l5), some (.int l6), some (.int 0), o8]) cd_137_34 (Nat.le_of_ble_eq_true rfl) rfl ?_
  exact h9
theorem b_137_36 {d : Nat} {Q : (Option Value ⊕ Nat) → mi_H → Prop} (n sl : Nat) (f : Nat → mi_C) {l1 : Nat} {l2 : Int32} {l3 : Int32} {l4 : Int32} {l5 : Int32} {l6 : Int32} {l7 : Int32} {o8 : Option Value} (h9 : 20 ≤ l7 → mi_W d 137 130 [some (.ref l1), some (.int l2), some (.int l3), some (.int l4), some (.int l5), some (.int l6), some (.int l7), o8] [] (n, sl, f) Q) (h10 : ¬ (20 ≤ l7) → mi_W d 137 43 [some (.ref l1), some (.int l2), some (.int l3), some (.int l4), some (.int l5), some (.int l6), some (.int l7), o8] [] (n, sl, f) Q) : mi_W d 137 36 [some (.ref l1), some (.int l2), some (.int l3), some (.int l4), some (.int l5), some (.int l6), some (.int l7), o8] [] (n, sl, f) Q := by
  refine w_iload cd_137_36 rfl ?_
  refine w_bipush (v := 20) cd_137_38 (by decide) ?_
  exact w_if_icmpge cd_137_40 (by decide) h9 h10
theorem b_137_43 {d : Nat} {Q : (Option Value ⊕ Nat) → mi_H → Prop} (n sl : Nat) (f : Nat → mi_C) {l1 : Nat} {l2 : Int32} {l3 : Int32} {l4 : Int32} {l5 : Int32} {l6 : Int32} {l7 : Int32} {o8 : Option Value} (h9 : 4 ≤ l7 → mi_W d 137 53 [some (.ref l1), some (.int l2), some (.int l3), some (.int l4), some (.int l5), some (.int l6), some (.int l7), o8] [] (n, sl, f) Q) (h10 : ¬ (4 ≤ l7) → mi_W d 137 49 [some (.ref l1), some (.int l2), some (.int l3), some (.int l4), some (.int l5), some (.int l6), some (.int l7), o8] [] (n, sl, f) Q) : mi_W d 137 43 [some (.ref l1), some (.int l2), some (.int l3), some (.int l4), some (.int l5), some (.int l6), some (.int l7), o8] [] (n, sl, f) Q := by
  refine w_iload cd_137_43 rfl ?_
  refine w_iconst (v := 4) cd_137_45 (by decide) ?_
  exact w_if_icmpge cd_137_46 (by decide) h9 h10
theorem b_137_49 {d : Nat} {Q : (Option Value ⊕ Nat) → mi_H → Prop} (n sl : Nat) (f : Nat → mi_C) {l1 : Nat} {l2 : Int32} {l3 : Int32} {l4 : Int32} {l5 : Int32} {l6 : Int32} {l7 : Int32} {o8 : Option Value} (h9 : mi_W d 137 89 [some (.ref l1), some (.int l2), some (.int l3), some (.int l4), some (.int l5), some (.int l6), some (.int l7), o8] [.int l2] (n, sl, f) Q) : mi_W d 137 49 [some (.ref l1), some (.int l2), some (.int l3), some (.int l4), some (.int l5), some (.int l6), some (.int l7), o8] [] (n, sl, f) Q := by
  refine w_iload_n cd_137_49 rfl ?_
  exact w_goto cd_137_50 (by decide) h9
theorem b_137_53 {d : Nat} {Q : (Option Value ⊕ Nat) → mi_H → Prop} (n sl : Nat) (f : Nat → mi_C) {l1 : Nat} {l2 : Int32} {l3 : Int32} {l4 : Int32} {l5 : Int32} {l6 : Int32} {l7 : Int32} {o8 : Option Value} (h9 : 8 ≤ l7 → mi_W d 137 64 [some (.ref l1), some (.int l2), some (.int l3), some (.int l4), some (.int l5), some (.int l6), some (.int l7), o8] [] (n, sl, f) Q) (h10 : ¬ (8 ≤ l7) → mi_W d 137 60 [some (.ref l1), some (.int l2), some (.int l3), some (.int l4), some (.int l5), some (.int l6), some (.int l7), o8] [] (n, sl, f) Q) : mi_W d 137 53 [some (.ref l1), some (.int l2), some (.int l3), some (.int l4), some (.int l5), some (.int l6), some (.int l7), o8] [] (n, sl, f) Q := by
  refine w_iload cd_137_53 rfl ?_
  refine w_bipush (v := 8) cd_137_55 (by decide) ?_
  exact w_if_icmpge cd_137_57 (by decide) h9 h10
theorem b_137_60 {d : Nat} {Q : (Option Value ⊕ Nat) → mi_H → Prop} (n sl : Nat) (f : Nat → mi_C) {l1 : Nat} {l2 : Int32} {l3 : Int32} {l4 : Int32} {l5 : Int32} {l6 : Int32} {l7 : Int32} {o8 : Option Value} (h9 : mi_W d 137 89 [some (.ref l1), some (.int l2), some (.int l3), some (.int l4), some (.int l5), some (.int l6), some (.int l7), o8] [.int l3] (n, sl, f) Q) : mi_W d 137 60 [some (.ref l1), some (.int l2), some (.int l3), some (.int l4), some (.int l5), some (.int l6), some (.int l7), o8] [] (n, sl, f) Q := by
  refine w_iload_n cd_137_60 rfl ?_
  exact w_goto cd_137_61 (by decide) h9
theorem b_137_64 {d : Nat} {Q : (Option Value ⊕ Nat) → mi_H → Prop} (n sl : Nat) (f : Nat → mi_C) {l1 : Nat} {l2 : Int32} {l3 : Int32} {l4 : Int32} {l5 : Int32} {l6 : Int32} {l7 : Int32} {o8 : Option Value} (h9 : 12 ≤ l7 → mi_W d 137 75 [some (.ref l1), some (.int l2), some (.int l3), some (.int l4), some (.int l5), some (.int l6), some (.int l7), o8] [] (n, sl, f) Q) (h10 : ¬ (12 ≤ l7) → mi_W d 137 71 [some (.ref l1), some (.int l2), some (.int l3), some (.int l4), some (.int l5), some (.int l6), some (.int l7), o8] [] (n, sl, f) Q) : mi_W d 137 64 [some (.ref l1), some (.int l2), some (.int l3), some (.int l4), some (.int l5), some (.int l6), some (.int l7), o8] [] (n, sl, f) Q := by
  refine w_iload cd_137_64 rfl ?_
  refine w_bipush (v := 12) cd_137_66 (by decide) ?_
  exact w_if_icmpge cd_137_68 (by decide) h9 h10
theorem b_137_71 {d : Nat} {Q : (Option Value ⊕ Nat) → mi_H → Prop} (n sl : Nat) (f : Nat → mi_C) {l1 : Nat} {l2 : Int32} {l3 : Int32} {l4 : Int32} {l5 : Int32} {l6 : Int32} {l7 : Int32} {o8 : Option Value} (h9 : mi_W d 137 89 [some (.ref l1), some (.int l2), some (.int l3), some (.int l4), some (.int l5), some (.int l6), some (.int l7), o8] [.int l4] (n, sl, f) Q) : mi_W d 137 71 [some (.ref l1), some (.int l2), some (.int l3), some (.int l4), some (.int l5), some (.int l6), some (.int l7), o8] [] (n, sl, f) Q := by
  refine w_iload_n cd_137_71 rfl ?_
  exact w_goto cd_137_72 (by decide) h9
theorem b_137_75 {d : Nat} {Q : (Option Value ⊕ Nat) → mi_H → Prop} (n sl : Nat) (f : Nat → mi_C) {l1 : Nat} {l2 : Int32} {l3 : Int32} {l4 : Int32} {l5 : Int32} {l6 : Int32} {l7 : Int32} {o8 : Option Value} (h9 : 16 ≤ l7 → mi_W d 137 87 [some (.ref l1), some (.int l2), some (.int l3), some (.int l4), some (.int l5), some (.int l6), some (.int l7), o8] [] (n, sl, f) Q) (h10 : ¬ (16 ≤ l7) → mi_W d 137 82 [some (.ref l1), some (.int l2), some (.int l3), some (.int l4), some (.int l5), some (.int l6), some (.int l7), o8] [] (n, sl, f) Q) : mi_W d 137 75 [some (.ref l1), some (.int l2), some (.int l3), some (.int l4), some (.int l5), some (.int l6), some (.int l7), o8] [] (n, sl, f) Q := by
  refine w_iload cd_137_75 rfl ?_
  refine w_bipush (v := 16) cd_137_77 (by decide) ?_
  exact w_if_icmpge cd_137_79 (by decide) h9 h10
theorem b_137_82 {d : Nat} {Q : (Option Value ⊕ Nat) → mi_H → Prop} (n sl : Nat) (f : Nat → mi_C) {l1 : Nat} {l2 : Int32} {l3 : Int32} {l4 : Int32} {l5 : Int32} {l6 : Int32} {l7 : Int32} {o8 : Option Value} (h9 : mi_W d 137 89 [some (.ref l1), some (.int l2), some (.int l3), some (.int l4), some (.int l5), some (.int l6), some (.int l7), o8] [.int l5] (n, sl, f) Q) : mi_W d 137 82 [some (.ref l1), some (.int l2), some (.int l3), some (.int l4), some (.int l5), some (.int l6), some (.int l7), o8] [] (n, sl, f) Q := by
  refine w_iload cd_137_82 rfl ?_
  exact w_goto cd_137_84 (by decide) h9
theorem b_137_87 {d : Nat} {Q : (Option Value ⊕ Nat) → mi_H → Prop} (n sl : Nat) (f : Nat → mi_C) {l1 : Nat} {l2 : Int32} {l3 : Int32} {l4 : Int32} {l5 : Int32} {l6 : Int32} {l7 : Int32} {o8 : Option Value} (h9 : mi_W d 137 89 [some (.ref l1), some (.int l2), some (.int l3), some (.int l4), some (.int l5), some (.int l6), some (.int l7), o8] [.int l6] (n, sl, f) Q) : mi_W d 137 87 [some (.ref l1), some (.int l2), some (.int l3), some (.int l4), some (.int l5), some (.int l6), some (.int l7), o8] [] (n, sl, f) Q := by
  refine w_iload cd_137_87 rfl ?_
  exact h9
theorem b_137_89 {d : Nat} {Q : (Option Value ⊕ Nat) → mi_H → Prop} (n sl : Nat) (f : Nat → mi_C) {l1 : Nat} {l2 : Int32} {l3 : Int32} {l4 : Int32} {l5 : Int32} {l6 : Int32} {l7 : Int32} {o8 : Option Value} {s9 : Int32} {fs10 : List Value} {x13 : Nat} {fs15 : List Value} {x18 : Int32} {fs20 : List Value} (m24 i24 : Nat) (g24 : Nat → Int32) (h11 : f l1 = .inr (12, fs10)) (h12 : l1 < n) (h14 : fs10[5]? = some (.ref x13)) (h16 : f l1 = .inr (12, fs15)) (h17 : l1 < n) (h19 : fs15[1]? = some (.int x18)) (h21 : f l1 = .inr (12, fs20)) (h22 : l1 < n) (h23 : 1 < fs20.length) (h25 : (va_up f l1 (.inr (12, fs20.set 1 (.int (x18 + 1))))) x13 = .inl (0, m24, .inl g24)) (h26 : x13 < n) (h27 : mi_ix x18 m24 i24) (h28 : mi_W d 137 36 [some (.ref l1), some (.int l2), some (.int l3), some (.int l4), some (.int l5), some (.int l6), some (.int (l7 + 1)), some (.int s9)] [] (n, sl, (va_up (va_up f l1 (.inr (12, fs20.set 1 (.int (x18 + 1))))) x13 (.inl (0, m24, .inl (upd g24 i24 (((s9.toUInt32 >>> (((24 - (8 * (l7 &&& 3))) : Int32).toUInt32 &&& Int32.toUInt32 31)).toInt32) &&& 255)))))) Q) : mi_W d 137 89 [some (.ref l1), some (.int l2), some (.int l3), some (.int l4), some (.int l5), some (.int l6), some (.int l7), o8] [.int s9] (n, sl, f) Q := by
  refine w_istore (ls' := [some (.ref l1), some (.int l2), some (.int l3), some (.int l4), some (.int l5), some (.int l6), some (.int l7), some (.int s9)]) cd_137_89 (Nat.le_of_ble_eq_true rfl) rfl ?_
  refine w_aload_n cd_137_91 rfl ?_
  refine w_getfield cd_137_92 (show mt_f 12 16 = some (12, 5) by decide +kernel) h11 h12 h14 ?_
  refine w_aload_n cd_137_95 rfl ?_
  refine w_dup_r cd_137_96 ?_
  refine w_getfield cd_137_97 (show mt_f 12 251 = some (12, 1) by decide +kernel) h16 h17 h19 ?_
  refine w_dup_x1_ir cd_137_100 ?_
  refine w_iconst (v := 1) cd_137_101 (by decide) ?_
  refine w_iadd cd_137_102 ?_
  refine w_putfield (w := .int (x18 + 1)) cd_137_103 (show mt_f 12 251 = some (12, 1) by decide +kernel) h21 h22 ⟨h23, rfl, Or.inl (by decide)⟩ ?_
  refine w_iload cd_137_106 rfl ?_
  refine w_bipush (v := 24) cd_137_108 (by decide) ?_
  refine w_bipush (v := 8) cd_137_110 (by decide) ?_
  refine w_iload cd_137_112 rfl ?_
  refine w_iconst (v := 3) cd_137_114 (by decide) ?_
  refine w_iand cd_137_115 ?_
  refine w_imul cd_137_116 ?_
  refine w_isub cd_137_117 ?_
  refine w_iushr cd_137_118 ?_
  refine w_sipush (v := 255) cd_137_119 (by decide) ?_
  refine w_iand cd_137_122 ?_
  refine w_iastore cd_137_123 h25 h26 h27 ?_
  refine w_iinc (v := 1) (ls' := [some (.ref l1), some (.int l2), some (.int l3), some (.int l4), some (.int l5), some (.int l6), some (.int (l7 + 1)), some (.int s9)]) cd_137_124 rfl (by decide) rfl ?_
  exact w_goto cd_137_127 (by decide) h28
theorem b_137_130 {d : Nat} {Q : (Option Value ⊕ Nat) → mi_H → Prop} (n sl : Nat) (f : Nat → mi_C) {l1 : Nat} {l2 : Int32} {l3 : Int32} {l4 : Int32} {l5 : Int32} {l6 : Int32} {l7 : Int32} {o8 : Option Value} {fs9 : List Value} {x12 : Int32} (h10 : f l1 = .inr (12, fs9)) (h11 : l1 < n) (h13 : fs9[1]? = some (.int x12)) (h14 : Q (.inl (some (.int x12))) (n, sl, f)) : mi_W d 137 130 [some (.ref l1), some (.int l2), some (.int l3), some (.int l4), some (.int l5), some (.int l6), some (.int l7), o8] [] (n, sl, f) Q := by
  refine w_aload_n cd_137_130 rfl ?_
  refine w_getfield cd_137_131 (show mt_f 12 251 = some (12, 1) by decide +kernel) h10 h11 h13 ?_
  exact w_ireturn_i cd_137_134 (by decide +kernel) h14
/-! MarloweHostModel.fails(ZI)Z -/
set_option maxRecDepth 100000 in
theorem mq_138 : mt_q 138 = my_138 := rfl
set_option maxRecDepth 100000 in
theorem ci_138 : mt_inc 0 my_138.cd = true := by decide +kernel
theorem cd_138_0 : mt_cd 138 0 = some (.iload_n 1) := mt_cd_of (q := (0, .iload_n 1, 1)) mq_138 ci_138 (List.mem_of_getElem? (i := 0) rfl)
theorem cd_138_1 : mt_cd 138 1 = some (.ifCond .eq 15) := mt_cd_of (q := (1, .ifCond .eq 15, 3)) mq_138 ci_138 (List.mem_of_getElem? (i := 1) rfl)
theorem cd_138_4 : mt_cd 138 4 = some (.aload_n 0) := mt_cd_of (q := (4, .aload_n 0, 1)) mq_138 ci_138 (List.mem_of_getElem? (i := 2) rfl)
theorem cd_138_5 : mt_cd 138 5 = some (.getfield 248) := mt_cd_of (q := (5, .getfield 248, 3)) mq_138 ci_138 (List.mem_of_getElem? (i := 3) rfl)
theorem cd_138_8 : mt_cd 138 8 = some (.ifCond .ne 8) := mt_cd_of (q := (8, .ifCond .ne 8, 3)) mq_138 ci_138 (List.mem_of_getElem? (i := 4) rfl)
theorem cd_138_11 : mt_cd 138 11 = some (.aload_n 0) := mt_cd_of (q := (11, .aload_n 0, 1)) mq_138 ci_138 (List.mem_of_getElem? (i := 5) rfl)
theorem cd_138_12 : mt_cd 138 12 = some (.iload_n 2) := mt_cd_of (q := (12, .iload_n 2, 1)) mq_138 ci_138 (List.mem_of_getElem? (i := 6) rfl)
theorem cd_138_13 : mt_cd 138 13 = some (.putfield 248) := mt_cd_of (q := (13, .putfield 248, 3)) mq_138 ci_138 (List.mem_of_getElem? (i := 7) rfl)
theorem cd_138_16 : mt_cd 138 16 = some (.aload_n 0) := mt_cd_of (q := (16, .aload_n 0, 1)) mq_138 ci_138 (List.mem_of_getElem? (i := 8) rfl)
theorem cd_138_17 : mt_cd 138 17 = some (.getfield 248) := mt_cd_of (q := (17, .getfield 248, 3)) mq_138 ci_138 (List.mem_of_getElem? (i := 9) rfl)
theorem cd_138_20 : mt_cd 138 20 = some (.ifCond .eq 7) := mt_cd_of (q := (20, .ifCond .eq 7, 3)) mq_138 ci_138 (List.mem_of_getElem? (i := 10) rfl)
theorem cd_138_23 : mt_cd 138 23 = some (.iconst 1) := mt_cd_of (q := (23, .iconst 1, 1)) mq_138 ci_138 (List.mem_of_getElem? (i := 11) rfl)
theorem cd_138_24 : mt_cd 138 24 = some (.goto 4) := mt_cd_of (q := (24, .goto 4, 3)) mq_138 ci_138 (List.mem_of_getElem? (i := 12) rfl)
theorem cd_138_27 : mt_cd 138 27 = some (.iconst 0) := mt_cd_of (q := (27, .iconst 0, 1)) mq_138 ci_138 (List.mem_of_getElem? (i := 13) rfl)
theorem cd_138_28 : mt_cd 138 28 = some (.ireturn) := mt_cd_of (q := (28, .ireturn, 1)) mq_138 ci_138 (List.mem_of_getElem? (i := 14) rfl)
theorem b_138_0 {d : Nat} {Q : (Option Value ⊕ Nat) → mi_H → Prop} (n sl : Nat) (f : Nat → mi_C) {l1 : Nat} {l2 : Int32} {l3 : Int32} (h4 : l2 = (0 : Int32) → mi_W d 138 16 [some (.ref l1), some (.int l2), some (.int l3)] [] (n, sl, f) Q) (h5 : ¬ (l2 = (0 : Int32)) → mi_W d 138 4 [some (.ref l1), some (.int l2), some (.int l3)] [] (n, sl, f) Q) : mi_W d 138 0 [some (.ref l1), some (.int l2), some (.int l3)] [] (n, sl, f) Q := by
  refine w_iload_n cd_138_0 rfl ?_
  exact w_ifeq cd_138_1 (by decide) h4 h5
theorem b_138_4 {d : Nat} {Q : (Option Value ⊕ Nat) → mi_H → Prop} (n sl : Nat) (f : Nat → mi_C) {l1 : Nat} {l2 : Int32} {l3 : Int32} {fs4 : List Value} {x7 : Int32} (h5 : f l1 = .inr (12, fs4)) (h6 : l1 < n) (h8 : fs4[0]? = some (.int x7)) (h9 : ¬ x7 = (0 : Int32) → mi_W d 138 16 [some (.ref l1), some (.int l2), some (.int l3)] [] (n, sl, f) Q) (h10 : ¬ (¬ x7 = (0 : Int32)) → mi_W d 138 11 [some (.ref l1), some (.int l2), some (.int l3)] [] (n, sl, f) Q) : mi_W d 138 4 [some (.ref l1), some (.int l2), some (.int l3)] [] (n, sl, f) Q := by
  refine w_aload_n cd_138_4 rfl ?_
  refine w_getfield cd_138_5 (show mt_f 12 248 = some (12, 0) by decide +kernel) h5 h6 h8 ?_
  exact w_ifne cd_138_8 (by decide) h9 h10
theorem b_138_11 {d : Nat} {Q : (Option Value ⊕ Nat) → mi_H → Prop} (n sl : Nat) (f : Nat → mi_C) {l1 : Nat} {l2 : Int32} {l3 : Int32} {fs4 : List Value} (h5 : f l1 = .inr (12, fs4)) (h6 : l1 < n) (h7 : 0 < fs4.length) (h8 : mi_W d 138 16 [some (.ref l1), some (.int l2), some (.int l3)] [] (n, sl, (va_up f l1 (.inr (12, fs4.set 0 (.int l3))))) Q) : mi_W d 138 11 [some (.ref l1), some (.int l2), some (.int l3)] [] (n, sl, f) Q := by
  refine w_aload_n cd_138_11 rfl ?_
  refine w_iload_n cd_138_12 rfl ?_
  refine w_putfield (w := .int l3) cd_138_13 (show mt_f 12 248 = some (12, 0) by decide +kernel) h5 h6 ⟨h7, rfl, Or.inl (by decide)⟩ ?_
  exact h8
theorem b_138_16 {d : Nat} {Q : (Option Value ⊕ Nat) → mi_H → Prop} (n sl : Nat) (f : Nat → mi_C) {l1 : Nat} {l2 : Int32} {l3 : Int32} {fs4 : List Value} {x7 : Int32} (h5 : f l1 = .inr (12, fs4)) (h6 : l1 < n) (h8 : fs4[0]? = some (.int x7)) (h9 : x7 = (0 : Int32) → mi_W d 138 27 [some (.ref l1), some (.int l2), some (.int l3)] [] (n, sl, f) Q) (h10 : ¬ (x7 = (0 : Int32)) → mi_W d 138 23 [some (.ref l1), some (.int l2), some (.int l3)] [] (n, sl, f) Q) : mi_W d 138 16 [some (.ref l1), some (.int l2), some (.int l3)] [] (n, sl, f) Q := by
  refine w_aload_n cd_138_16 rfl ?_
  refine w_getfield cd_138_17 (show mt_f 12 248 = some (12, 0) by decide +kernel) h5 h6 h8 ?_
  exact w_ifeq cd_138_20 (by decide) h9 h10
theorem b_138_23 {d : Nat} {Q : (Option Value ⊕ Nat) → mi_H → Prop} (n sl : Nat) (f : Nat → mi_C) {l1 : Nat} {l2 : Int32} {l3 : Int32} (h4 : mi_W d 138 28 [some (.ref l1), some (.int l2), some (.int l3)] [.int 1] (n, sl, f) Q) : mi_W d 138 23 [some (.ref l1), some (.int l2), some (.int l3)] [] (n, sl, f) Q := by
  refine w_iconst (v := 1) cd_138_23 (by decide) ?_
  exact w_goto cd_138_24 (by decide) h4
theorem b_138_27 {d : Nat} {Q : (Option Value ⊕ Nat) → mi_H → Prop} (n sl : Nat) (f : Nat → mi_C) {l1 : Nat} {l2 : Int32} {l3 : Int32} (h4 : mi_W d 138 28 [some (.ref l1), some (.int l2), some (.int l3)] [.int 0] (n, sl, f) Q) : mi_W d 138 27 [some (.ref l1), some (.int l2), some (.int l3)] [] (n, sl, f) Q := by
  refine w_iconst (v := 0) cd_138_27 (by decide) ?_
  exact h4
theorem b_138_28 {d : Nat} {Q : (Option Value ⊕ Nat) → mi_H → Prop} (n sl : Nat) (f : Nat → mi_C) {l1 : Nat} {l2 : Int32} {l3 : Int32} {s4 : Int32} (h5 : s4 = 0 ∨ s4 = 1) (h6 : Q (.inl (some (.int s4))) (n, sl, f)) : mi_W d 138 28 [some (.ref l1), some (.int l2), some (.int l3)] [.int s4] (n, sl, f) Q := by
  exact w_ireturn_z cd_138_28 (by decide +kernel) h5 h6
end
