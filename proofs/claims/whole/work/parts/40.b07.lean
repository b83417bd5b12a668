section
/-! MarloweHostModel.timed(I)Z -/
set_option maxRecDepth 100000 in
theorem mq_194 : mt_q 194 = my_194 := rfl
set_option maxRecDepth 100000 in
theorem ci_194 : mt_inc 0 my_194.cd = true := by decide +kernel
theorem cd_194_0 : mt_cd 194 0 = some (.aload_n 0) := mt_cd_of (q := (0, .aload_n 0, 1)) mq_194 ci_194 (List.mem_of_getElem? (i := 0) rfl)
theorem cd_194_1 : mt_cd 194 1 = some (.getfield 77) := mt_cd_of (q := (1, .getfield 77, 3)) mq_194 ci_194 (List.mem_of_getElem? (i := 1) rfl)
theorem cd_194_4 : mt_cd 194 4 = some (.iload_n 1) := mt_cd_of (q := (4, .iload_n 1, 1)) mq_194 ci_194 (List.mem_of_getElem? (i := 2) rfl)
theorem cd_194_5 : mt_cd 194 5 = some (.iaload) := mt_cd_of (q := (5, .iaload, 1)) mq_194 ci_194 (List.mem_of_getElem? (i := 3) rfl)
theorem cd_194_6 : mt_cd 194 6 = some (.tableswitch 188 12 32 #[100, 156, 156, 156, 156, 188, 188, 98, 98, 111, 188, 188, 156, 156, 100, 188, 156, 156, 156, 156, 156]) := mt_cd_of (q := (6, .tableswitch 188 12 32 #[100, 156, 156, 156, 156, 188, 188, 98, 98, 111, 188, 188, 156, 156, 100, 188, 156, 156, 156, 156, 156], 98)) mq_194 ci_194 (List.mem_of_getElem? (i := 4) rfl)
theorem cd_194_104 : mt_cd 194 104 = some (.iconst 1) := mt_cd_of (q := (104, .iconst 1, 1)) mq_194 ci_194 (List.mem_of_getElem? (i := 5) rfl)
theorem cd_194_105 : mt_cd 194 105 = some (.ireturn) := mt_cd_of (q := (105, .ireturn, 1)) mq_194 ci_194 (List.mem_of_getElem? (i := 6) rfl)
theorem cd_194_106 : mt_cd 194 106 = some (.aload_n 0) := mt_cd_of (q := (106, .aload_n 0, 1)) mq_194 ci_194 (List.mem_of_getElem? (i := 7) rfl)
theorem cd_194_107 : mt_cd 194 107 = some (.aload_n 0) := mt_cd_of (q := (107, .aload_n 0, 1)) mq_194 ci_194 (List.mem_of_getElem? (i := 8) rfl)
theorem cd_194_108 : mt_cd 194 108 = some (.getfield 80) := mt_cd_of (q := (108, .getfield 80, 3)) mq_194 ci_194 (List.mem_of_getElem? (i := 9) rfl)
theorem cd_194_111 : mt_cd 194 111 = some (.iload_n 1) := mt_cd_of (q := (111, .iload_n 1, 1)) mq_194 ci_194 (List.mem_of_getElem? (i := 10) rfl)
theorem cd_194_112 : mt_cd 194 112 = some (.iaload) := mt_cd_of (q := (112, .iaload, 1)) mq_194 ci_194 (List.mem_of_getElem? (i := 11) rfl)
theorem cd_194_113 : mt_cd 194 113 = some (.invokevirtual 554) := mt_cd_of (q := (113, .invokevirtual 554, 3)) mq_194 ci_194 (List.mem_of_getElem? (i := 12) rfl)
theorem cd_194_116 : mt_cd 194 116 = some (.ireturn) := mt_cd_of (q := (116, .ireturn, 1)) mq_194 ci_194 (List.mem_of_getElem? (i := 13) rfl)
theorem cd_194_117 : mt_cd 194 117 = some (.aload_n 0) := mt_cd_of (q := (117, .aload_n 0, 1)) mq_194 ci_194 (List.mem_of_getElem? (i := 14) rfl)
theorem cd_194_118 : mt_cd 194 118 = some (.aload_n 0) := mt_cd_of (q := (118, .aload_n 0, 1)) mq_194 ci_194 (List.mem_of_getElem? (i := 15) rfl)
theorem cd_194_119 : mt_cd 194 119 = some (.getfield 89) := mt_cd_of (q := (119, .getfield 89, 3)) mq_194 ci_194 (List.mem_of_getElem? (i := 16) rfl)
theorem cd_194_122 : mt_cd 194 122 = some (.iload_n 1) := mt_cd_of (q := (122, .iload_n 1, 1)) mq_194 ci_194 (List.mem_of_getElem? (i := 17) rfl)
theorem cd_194_123 : mt_cd 194 123 = some (.iaload) := mt_cd_of (q := (123, .iaload, 1)) mq_194 ci_194 (List.mem_of_getElem? (i := 18) rfl)
theorem cd_194_124 : mt_cd 194 124 = some (.invokevirtual 554) := mt_cd_of (q := (124, .invokevirtual 554, 3)) mq_194 ci_194 (List.mem_of_getElem? (i := 19) rfl)
theorem cd_194_127 : mt_cd 194 127 = some (.ifCond .ne 29) := mt_cd_of (q := (127, .ifCond .ne 29, 3)) mq_194 ci_194 (List.mem_of_getElem? (i := 20) rfl)
theorem cd_194_130 : mt_cd 194 130 = some (.aload_n 0) := mt_cd_of (q := (130, .aload_n 0, 1)) mq_194 ci_194 (List.mem_of_getElem? (i := 21) rfl)
theorem cd_194_131 : mt_cd 194 131 = some (.aload_n 0) := mt_cd_of (q := (131, .aload_n 0, 1)) mq_194 ci_194 (List.mem_of_getElem? (i := 22) rfl)
theorem cd_194_132 : mt_cd 194 132 = some (.getfield 80) := mt_cd_of (q := (132, .getfield 80, 3)) mq_194 ci_194 (List.mem_of_getElem? (i := 23) rfl)
theorem cd_194_135 : mt_cd 194 135 = some (.iload_n 1) := mt_cd_of (q := (135, .iload_n 1, 1)) mq_194 ci_194 (List.mem_of_getElem? (i := 24) rfl)
theorem cd_194_136 : mt_cd 194 136 = some (.iaload) := mt_cd_of (q := (136, .iaload, 1)) mq_194 ci_194 (List.mem_of_getElem? (i := 25) rfl)
theorem cd_194_137 : mt_cd 194 137 = some (.invokevirtual 554) := mt_cd_of (q := (137, .invokevirtual 554, 3)) mq_194 ci_194 (List.mem_of_getElem? (i := 26) rfl)
theorem cd_194_140 : mt_cd 194 140 = some (.ifCond .ne 16) := mt_cd_of (q := (140, .ifCond .ne 16, 3)) mq_194 ci_194 (List.mem_of_getElem? (i := 27) rfl)
theorem cd_194_143 : mt_cd 194 143 = some (.aload_n 0) := mt_cd_of (q := (143, .aload_n 0, 1)) mq_194 ci_194 (List.mem_of_getElem? (i := 28) rfl)
theorem cd_194_144 : mt_cd 194 144 = some (.aload_n 0) := mt_cd_of (q := (144, .aload_n 0, 1)) mq_194 ci_194 (List.mem_of_getElem? (i := 29) rfl)
theorem cd_194_145 : mt_cd 194 145 = some (.getfield 83) := mt_cd_of (q := (145, .getfield 83, 3)) mq_194 ci_194 (List.mem_of_getElem? (i := 30) rfl)
theorem cd_194_148 : mt_cd 194 148 = some (.iload_n 1) := mt_cd_of (q := (148, .iload_n 1, 1)) mq_194 ci_194 (List.mem_of_getElem? (i := 31) rfl)
theorem cd_194_149 : mt_cd 194 149 = some (.iaload) := mt_cd_of (q := (149, .iaload, 1)) mq_194 ci_194 (List.mem_of_getElem? (i := 32) rfl)
theorem cd_194_150 : mt_cd 194 150 = some (.invokevirtual 554) := mt_cd_of (q := (150, .invokevirtual 554, 3)) mq_194 ci_194 (List.mem_of_getElem? (i := 33) rfl)
theorem cd_194_153 : mt_cd 194 153 = some (.ifCond .eq 7) := mt_cd_of (q := (153, .ifCond .eq 7, 3)) mq_194 ci_194 (List.mem_of_getElem? (i := 34) rfl)
theorem cd_194_156 : mt_cd 194 156 = some (.iconst 1) := mt_cd_of (q := (156, .iconst 1, 1)) mq_194 ci_194 (List.mem_of_getElem? (i := 35) rfl)
theorem cd_194_157 : mt_cd 194 157 = some (.goto 4) := mt_cd_of (q := (157, .goto 4, 3)) mq_194 ci_194 (List.mem_of_getElem? (i := 36) rfl)
theorem cd_194_160 : mt_cd 194 160 = some (.iconst 0) := mt_cd_of (q := (160, .iconst 0, 1)) mq_194 ci_194 (List.mem_of_getElem? (i := 37) rfl)
theorem cd_194_161 : mt_cd 194 161 = some (.ireturn) := mt_cd_of (q := (161, .ireturn, 1)) mq_194 ci_194 (List.mem_of_getElem? (i := 38) rfl)
theorem cd_194_162 : mt_cd 194 162 = some (.aload_n 0) := mt_cd_of (q := (162, .aload_n 0, 1)) mq_194 ci_194 (List.mem_of_getElem? (i := 39) rfl)
theorem cd_194_163 : mt_cd 194 163 = some (.aload_n 0) := mt_cd_of (q := (163, .aload_n 0, 1)) mq_194 ci_194 (List.mem_of_getElem? (i := 40) rfl)
theorem cd_194_164 : mt_cd 194 164 = some (.getfield 80) := mt_cd_of (q := (164, .getfield 80, 3)) mq_194 ci_194 (List.mem_of_getElem? (i := 41) rfl)
theorem cd_194_167 : mt_cd 194 167 = some (.iload_n 1) := mt_cd_of (q := (167, .iload_n 1, 1)) mq_194 ci_194 (List.mem_of_getElem? (i := 42) rfl)
theorem cd_194_168 : mt_cd 194 168 = some (.iaload) := mt_cd_of (q := (168, .iaload, 1)) mq_194 ci_194 (List.mem_of_getElem? (i := 43) rfl)
theorem cd_194_169 : mt_cd 194 169 = some (.invokevirtual 554) := mt_cd_of (q := (169, .invokevirtual 554, 3)) mq_194 ci_194 (List.mem_of_getElem? (i := 44) rfl)
theorem cd_194_172 : mt_cd 194 172 = some (.ifCond .ne 16) := mt_cd_of (q := (172, .ifCond .ne 16, 3)) mq_194 ci_194 (List.mem_of_getElem? (i := 45) rfl)
theorem cd_194_175 : mt_cd 194 175 = some (.aload_n 0) := mt_cd_of (q := (175, .aload_n 0, 1)) mq_194 ci_194 (List.mem_of_getElem? (i := 46) rfl)
theorem cd_194_176 : mt_cd 194 176 = some (.aload_n 0) := mt_cd_of (q := (176, .aload_n 0, 1)) mq_194 ci_194 (List.mem_of_getElem? (i := 47) rfl)
theorem cd_194_177 : mt_cd 194 177 = some (.getfield 83) := mt_cd_of (q := (177, .getfield 83, 3)) mq_194 ci_194 (List.mem_of_getElem? (i := 48) rfl)
theorem cd_194_180 : mt_cd 194 180 = some (.iload_n 1) := mt_cd_of (q := (180, .iload_n 1, 1)) mq_194 ci_194 (List.mem_of_getElem? (i := 49) rfl)
theorem cd_194_181 : mt_cd 194 181 = some (.iaload) := mt_cd_of (q := (181, .iaload, 1)) mq_194 ci_194 (List.mem_of_getElem? (i := 50) rfl)
theorem cd_194_182 : mt_cd 194 182 = some (.invokevirtual 554) := mt_cd_of (q := (182, .invokevirtual 554, 3)) mq_194 ci_194 (List.mem_of_getElem? (i := 51) rfl)
theorem cd_194_185 : mt_cd 194 185 = some (.ifCond .eq 7) := mt_cd_of (q := (185, .ifCond .eq 7, 3)) mq_194 ci_194 (List.mem_of_getElem? (i := 52) rfl)
theorem cd_194_188 : mt_cd 194 188 = some (.iconst 1) := mt_cd_of (q := (188, .iconst 1, 1)) mq_194 ci_194 (List.mem_of_getElem? (i := 53) rfl)
theorem cd_194_189 : mt_cd 194 189 = some (.goto 4) := mt_cd_of (q := (189, .goto 4, 3)) mq_194 ci_194 (List.mem_of_getElem? (i := 54) rfl)
theorem cd_194_192 : mt_cd 194 192 = some (.iconst 0) := mt_cd_of (q := (192, .iconst 0, 1)) mq_194 ci_194 (List.mem_of_getElem? (i := 55) rfl)
theorem cd_194_193 : mt_cd 194 193 = some (.ireturn) := mt_cd_of (q := (193, .ireturn, 1)) mq_194 ci_194 (List.mem_of_getElem? (i := 56) rfl)
theorem cd_194_194 : mt_cd 194 194 = some (.iconst 0) := mt_cd_of (q := (194, .iconst 0, 1)) mq_194 ci_194 (List.mem_of_getElem? (i := 57) rfl)
theorem cd_194_195 : mt_cd 194 195 = some (.ireturn) := mt_cd_of (q := (195, .ireturn, 1)) mq_194 ci_194 (List.mem_of_getElem? (i := 58) rfl)
theorem b_194_0 {d : Nat} {Q : (Option Value ⊕ Nat) → mi_H → Prop} (n sl : Nat) (f : Nat → mi_C) {l1 : Nat} {l2 : Int32} {fs3 : List Value} {x6 : Nat} (m8 i8 : Nat) (g8 : Nat → Int32) {t12 : Nat} (h4 : f l1 = .inr (12, fs3)) (h5 : l1 < n) (h7 : fs3[12]? = some (.ref x6)) (h9 : f x6 = .inl (0, m8, .inl g8)) (h10 : x6 < n ∨ x6 = mi_SC) (h11 : mi_ix l2 m8 i8) (h13 : mi_ts 6 188 12 32 #[100, 156, 156, 156, 156, 188, 188, 98, 98, 111, 188, 188, 156, 156, 100, 188, 156, 156, 156, 156, 156] ((g8 i8) : Int32).toInt = some t12) (h14 : mi_W d 194 t12 [some (.ref l1), some (.int l2)] [] (n, sl, f) Q) : mi_W d 194 0 [some (.ref l1), some (.int l2)] [] (n, sl, f) Q := by
  refine w_aload_n cd_194_0 rfl ?_
  refine w_getfield cd_194_1 (show mt_f 12 77 = some (12, 12) by decide +kernel) h4 h5 h7 ?_
  refine w_iload_n cd_194_4 rfl ?_
  refine w_iaload cd_194_5 h9 h10 h11 ?_
  exact w_tableswitch cd_194_6 h13 h14
theorem b_194_104 {d : Nat} {Q : (Option Value ⊕ Nat) → mi_H → Prop} (n sl : Nat) (f : Nat → mi_C) {l1 : Nat} {l2 : Int32} (h3 : Q (.inl (some (.int 1))) (n, sl, f)) : mi_W d 194 104 [some (.ref l1), some (.int l2)] [] (n, sl, f) Q := by
  refine w_iconst (v := 1) cd_194_104 (by decide) ?_
  exact w_ireturn_z cd_194_105 (by decide +kernel) (by decide) h3
theorem b_194_106 {d : Nat} {Q : (Option Value ⊕ Nat) → mi_H → Prop} (n sl : Nat) (f : Nat → mi_C) {l1 : Nat} {l2 : Int32} {fs3 : List Value} {x6 : Nat} (m8 i8 : Nat) (g8 : Nat → Int32) {fs12 : List Value} (h4 : f l1 = .inr (12, fs3)) (h5 : l1 < n) (h7 : fs3[13]? = some (.ref x6)) (h9 : f x6 = .inl (0, m8, .inl g8)) (h10 : x6 < n ∨ x6 = mi_SC) (h11 : mi_ix l2 m8 i8) (h13 : f l1 = .inr (12, fs12)) (h14 : l1 < n) (h15 : mi_W d 194 0 (mi_en 2 [.ref l1, .int (g8 i8)]) [] (n, sl, f) (mi_Kc d 194 113 [some (.ref l1), some (.int l2)] [] Q)) : mi_W (d + 1) 194 106 [some (.ref l1), some (.int l2)] [] (n, sl, f) Q := by
  refine w_aload_n cd_194_106 rfl ?_
  refine w_aload_n cd_194_107 rfl ?_
  refine w_getfield cd_194_108 (show mt_f 12 80 = some (12, 13) by decide +kernel) h4 h5 h7 ?_
  refine w_iload_n cd_194_111 rfl ?_
  refine w_iaload cd_194_112 h9 h10 h11 ?_
  exact w_invokevirtual cd_194_113 (show mt_m 12 554 = some (194, 0) by decide +kernel) (rest := []) rfl (as := [.ref l1, .int (g8 i8)]) rfl h13 (Or.inl h14) ⟨Nat.le_of_ble_eq_true rfl, Nat.le_of_ble_eq_true rfl, Nat.le_of_ble_eq_true rfl⟩ h15
theorem b_194_116 {d : Nat} {Q : (Option Value ⊕ Nat) → mi_H → Prop} (n sl : Nat) (f : Nat → mi_C) {l1 : Nat} {l2 : Int32} {s3 : Int32} (h4 : s3 = 0 ∨ s3 = 1) (h5 : Q (.inl (some (.int s3))) (n, sl, f)) : mi_W d 194 116 [some (.ref l1), some (.int l2)] [.int s3] (n, sl, f) Q := by
  exact w_ireturn_z cd_194_116 (by decide +kernel) h4 h5
theorem b_194_117 {d : Nat} {Q : (Option Value ⊕ Nat) → mi_H → Prop} (n sl : Nat) (f : Nat → mi_C) {l1 : Nat} {l2 : Int32} {fs3 : List Value} {x6 : Nat} (m8 i8 : Nat) (g8 : Nat → Int32) {fs12 : List Value} (h4 : f l1 = .inr (12, fs3)) (h5 : l1 < n) (h7 : fs3[16]? = some (.ref x6)) (h9 : f x6 = .inl (0, m8, .inl g8)) (h10 : x6 < n ∨ x6 = mi_SC) (h11 : mi_ix l2 m8 i8) (h13 : f l1 = .inr (12, fs12)) (h14 : l1 < n) (h15 : mi_W d 194 0 (mi_en 2 [.ref l1, .int (g8 i8)]) [] (n, sl, f) (mi_Kc d 194 124 [some (.ref l1), some (.int l2)] [] Q)) : mi_W (d + 1) 194 117 [some (.ref l1), some (.int l2)] [] (n, sl, f) Q := by
  refine w_aload_n cd_194_117 rfl ?_
  refine w_aload_n cd_194_118 rfl ?_
  refine w_getfield cd_194_119 (show mt_f 12 89 = some (12, 16) by decide +kernel) h4 h5 h7 ?_
  refine w_iload_n cd_194_122 rfl ?_
  refine w_iaload cd_194_123 h9 h10 h11 ?_
  exact w_invokevirtual cd_194_124 (show mt_m 12 554 = some (194, 0) by decide +kernel) (rest := []) rfl (as := [.ref l1, .int (g8 i8)]) rfl h13 (Or.inl h14) ⟨Nat.le_of_ble_eq_true rfl, Nat.le_of_ble_eq_true rfl, Nat.le_of_ble_eq_true rfl⟩ h15
theorem b_194_127 {d : Nat} {Q : (Option Value ⊕ Nat) → mi_H → Prop} (n sl : Nat) (f : Nat → mi_C) {l1 : Nat} {l2 : Int32} {s3 : Int32} (h4 : ¬ s3 = (0 : Int32) → mi_W d 194 156 [some (.ref l1), some (.int l2)] [] (n, sl, f) Q) (h5 : ¬ (¬ s3 = (0 : Int32)) → mi_W d 194 130 [some (.ref l1), some (.int l2)] [] (n, sl, f) Q) : mi_W d 194 127 [some (.ref l1), some (.int l2)] [.int s3] (n, sl, f) Q := by
  exact w_ifne cd_194_127 (by decide) h4 h5
theorem b_194_130 {d : Nat} {Q : (Option Value ⊕ Nat) → mi_H → Prop} (n sl : Nat) (f : Nat → mi_C) {l1 : Nat} {l2 : Int32} {fs3 : List Value} {x6 : Nat} (m8 i8 : Nat) (g8 : Nat → Int32) {fs12 : List Value} (h4 : f l1 = .inr (12, fs3)) (h5 : l1 < n) (h7 : fs3[13]? = some (.ref x6)) (h9 : f x6 = .inl (0, m8, .inl g8)) (h10 : x6 < n ∨ x6 = mi_SC) (h11 : mi_ix l2 m8 i8) (h13 : f l1 = .inr (12, fs12)) (h14 : l1 < n) (h15 : mi_W d 194 0 (mi_en 2 [.ref l1, .int (g8 i8)]) [] (n, sl, f) (mi_Kc d 194 137 [some (.ref l1), some (.int l2)] [] Q)) : mi_W (d + 1) 194 130 [some (.ref l1), some (.int l2)] [] (n, sl, f) Q := by
  refine w_aload_n cd_194_130 rfl ?_
  refine w_aload_n cd_194_131 rfl ?_
  refine w_getfield cd_194_132 (show mt_f 12 80 = some (12, 13) by decide +kernel) h4 h5 h7 ?_
  refine w_iload_n cd_194_135 rfl ?_
  refine w_iaload cd_194_136 h9 h10 h11 ?_
  exact w_invokevirtual cd_194_137 (show mt_m 12 554 = some (194, 0) by decide +kernel) (rest := []) rfl (as := [.ref l1, .int (g8 i8)]) rfl h13 (Or.inl h14) ⟨Nat.le_of_ble_eq_true rfl, Nat.le_of_ble_eq_true rfl, Nat.le_of_ble_eq_true rfl⟩ h15
theorem b_194_140 {d : Nat} {Q : (Option Value ⊕ Nat) → mi_H → Prop} (n sl : Nat) (f : Nat → mi_C) {l1 : Nat} {l2 : Int32} {s3 : Int32} (h4 : ¬ s3 = (0 : Int32) → mi_W d 194 156 [some (.ref l1), some (.int l2)] [] (n, sl, f) Q) (h5 : ¬ (¬ s3 = (0 : Int32)) → mi_W d 194 143 [some (.ref l1), some (.int l2)] [] (n, sl, f) Q) : mi_W d 194 140 [some (.ref l1), some (.int l2)] [.int s3] (n, sl, f) Q := by
  exact w_ifne cd_194_140 (by decide) h4 h5
theorem b_194_143 {d : Nat} {Q : (Option Value ⊕ Nat) → mi_H → Prop} (n sl : Nat) (f : Nat → mi_C) {l1 : Nat} {l2 : Int32} {fs3 : List Value} {x6 : Nat} (m8 i8 : Nat) (g8 : Nat → Int32) {fs12 : List Value} (h4 : f l1 = .inr (12, fs3)) (h5 : l1 < n) (h7 : fs3[14]? = some (.ref x6)) (h9 : f x6 = .inl (0, m8, .inl g8)) (h10 : x6 < n ∨ x6 = mi_SC) (h11 : mi_ix l2 m8 i8) (h13 : f l1 = .inr (12, fs12)) (h14 : l1 < n) (h15 : mi_W d 194 0 (mi_en 2 [.ref l1, .int (g8 i8)]) [] (n, sl, f) (mi_Kc d 194 150 [some (.ref l1), some (.int l2)] [] Q)) : mi_W (d + 1) 194 143 [some (.ref l1), some (.int l2)] [] (n, sl, f) Q := by
  refine w_aload_n cd_194_143 rfl ?_
  refine w_aload_n cd_194_144 rfl ?_
  refine w_getfield cd_194_145 (show mt_f 12 83 = some (12, 14) by decide +kernel) h4 h5 h7 ?_
  refine w_iload_n cd_194_148 rfl ?_
  refine w_iaload cd_194_149 h9 h10 h11 ?_
  exact w_invokevirtual cd_194_150 (show mt_m 12 554 = some (194, 0) by decide +kernel) (rest := []) rfl (as := [.ref l1, .int (g8 i8)]) rfl h13 (Or.inl h14) ⟨Nat.le_of_ble_eq_true rfl, Nat.le_of_ble_eq_true rfl, Nat.le_of_ble_eq_true rfl⟩ h15
theorem b_194_153 {d : Nat} {Q : (Option Value ⊕ Nat) → mi_H → Prop} (n sl : Nat) (f : Nat → mi_C) {l1 : Nat} {l2 : Int32} {s3 : Int32} (h4 : s3 = (0 : Int32) → mi_W d 194 160 [some (.ref l1), some (.int l2)] [] (n, sl, f) Q) (h5 : ¬ (s3 = (0 : Int32)) → mi_W d 194 156 [some (.ref l1), some (.int l2)] [] (n, sl, f) Q) : mi_W d 194 153 [some (.ref l1), some (.int l2)] [.int s3] (n, sl, f) Q := by
  exact w_ifeq cd_194_153 (by decide) h4 h5
theorem b_194_156 {d : Nat} {Q : (Option Value ⊕ Nat) → mi_H → Prop} (n sl : Nat) (f : Nat → mi_C) {l1 : Nat} {l2 : Int32} (h3 : mi_W d 194 161 [some (.ref l1), some (.int l2)] [.int 1] (n, sl, f) Q) : mi_W d 194 156 [some (.ref l1), some (.int l2)] [] (n, sl, f) Q := by
  refine w_iconst (v := 1) cd_194_156 (by decide) ?_
  exact w_goto cd_194_157 (by decide) h3
theorem b_194_160 {d : Nat} {Q : (Option Value ⊕ Nat) → mi_H → Prop} (n sl : Nat) (f : Nat → mi_C) {l1 : Nat} {l2 : Int32} (h3 : mi_W d 194 161 [some (.ref l1), some (.int l2)] [.int 0] (n, sl, f) Q) : mi_W d 194 160 [some (.ref l1), some (.int l2)] [] (n, sl, f) Q := by
  refine w_iconst (v := 0) cd_194_160 (by decide) ?_
  exact h3
theorem b_194_161 {d : Nat} {Q : (Option Value ⊕ Nat) → mi_H → Prop} (n sl : Nat) (f : Nat → mi_C) {l1 : Nat} {l2 : Int32} {s3 : Int32} (h4 : s3 = 0 ∨ s3 = 1) (h5 : Q (.inl (some (.int s3))) (n, sl, f)) : mi_W d 194 161 [some (.ref l1), some (.int l2)] [.int s3] (n, sl, f) Q := by
  exact w_ireturn_z cd_194_161 (by decide +kernel) h4 h5
theorem b_194_162 {d : Nat} {Q : (Option Value ⊕ Nat) → mi_H → Prop} (n sl : Nat) (f : Nat → mi_C) {l1 : Nat} {l2 : Int32} {fs3 : List Value} {x6 : Nat} (m8 i8 : Nat) (g8 : Nat → Int32) {fs12 : List Value} (h4 : f l1 = .inr (12, fs3)) (h5 : l1 < n) (h7 : fs3[13]? = some (.ref x6)) (h9 : f x6 = .inl (0, m8, .inl g8)) (h10 : x6 < n ∨ x6 = mi_SC) (h11 : mi_ix l2 m8 i8) (h13 : f l1 = .inr (12, fs12)) (h14 : l1 < n) (h15 : mi_W d 194 0 (mi_en 2 [.ref l1, .int (g8 i8)]) [] (n, sl, f) (mi_Kc d 194 169 [some (.ref l1), some (.int l2)] [] Q)) : mi_W (d + 1) 194 162 [some (.ref l1), some (.int l2)] [] (n, sl, f) Q := by
  refine w_aload_n cd_194_162 rfl ?_
  refine w_aload_n cd_194_163 rfl ?_
  refine w_getfield cd_194_164 (show mt_f 12 80 = some (12, 13) by decide +kernel) h4 h5 h7 ?_
  refine w_iload_n cd_194_167 rfl ?_
  refine w_iaload cd_194_168 h9 h10 h11 ?_
  exact w_invokevirtual cd_194_169 (show mt_m 12 554 = some (194, 0) by decide +kernel) (rest := []) rfl (as := [.ref l1, .int (g8 i8)]) rfl h13 (Or.inl h14) ⟨Nat.le_of_ble_eq_true rfl, Nat.le_of_ble_eq_true rfl, Nat.le_of_ble_eq_true rfl⟩ h15
theorem b_194_172 {d : Nat} {Q : (Option Value ⊕ Nat) → mi_H → Prop} (n sl : Nat) (f : Nat → mi_C) {l1 : Nat} {l2 : Int32} {s3 : Int32} (h4 : ¬ s3 = (0 : Int32) → mi_W d 194 188 [some (.ref l1), some (.int l2)] [] (n, sl, f) Q) (h5 : ¬ (¬ s3 = (0 : Int32)) → mi_W d 194 175 [some (.ref l1), some (.int l2)] [] (n, sl, f) Q) : mi_W d 194 172 [some (.ref l1), some (.int l2)] [.int s3] (n, sl, f) Q := by
  exact w_ifne cd_194_172 (by decide) h4 h5
theorem b_194_175 {d : Nat} {Q : (Option Value ⊕ Nat) → mi_H → Prop} (n sl : Nat) (f : Nat → mi_C) {l1 : Nat} {l2 : Int32} {fs3 : List Value} {x6 : Nat} (m8 i8 : Nat) (g8 : Nat → Int32) {fs12 : List Value} (h4 : f l1 = .inr (12, fs3)) (h5 : l1 < n) (h7 : fs3[14]? = some (.ref x6)) (h9 : f x6 = .inl (0, m8, .inl g8)) (h10 : x6 < n ∨ x6 = mi_SC) (h11 : mi_ix l2 m8 i8) (h13 : f l1 = .inr (12, fs12)) (h14 : l1 < n) (h15 : mi_W d 194 0 (mi_en 2 [.ref l1, .int (g8 i8)]) [] (n, sl, f) (mi_Kc d 194 182 [some (.ref l1), some (.int l2)] [] Q)) : mi_W (d + 1) 194 175 [some (.ref l1), some (.int l2)] [] (n, sl, f) Q := by
  refine w_aload_n cd_194_175 rfl ?_
  refine w_aload_n cd_194_176 rfl ?_
  refine w_getfield cd_194_177 (show mt_f 12 83 = some (12, 14) by decide +kernel) h4 h5 h7 ?_
  refine w_iload_n cd_194_180 rfl ?_
  refine w_iaload cd_194_181 h9 h10 h11 ?_
  exact w_invokevirtual cd_194_182 (show mt_m 12 554 = some (194, 0) by decide +kernel) (rest := []) rfl (as := [.ref l1, .int (g8 i8)]) rfl h13 (Or.inl h14) ⟨Nat.le_of_ble_eq_true rfl, Nat.le_of_ble_eq_true rfl, Nat.le_of_ble_eq_true rfl⟩ h15
theorem b_194_185 {d : Nat} {Q : (Option Value ⊕ Nat) → mi_H → Prop} (n sl : Nat) (f : Nat → mi_C) {l1 : Nat} {l2 : Int32} {s3 : Int32} (h4 : s3 = (0 : Int32) → mi_W d 194 192 [some (.ref l1), some (.int l2)] [] (n, sl, f) Q) (h5 : ¬ (s3 = (0 : Int32)) → mi_W d 194 188 [some (.ref l1), some (.int l2)] [] (n, sl, f) Q) : mi_W d 194 185 [some (.ref l1), some (.int l2)] [.int s3] (n, sl, f) Q := by
  exact w_ifeq cd_194_185 (by decide) h4 h5
theorem b_194_188 {d : Nat} {Q : (Option Value ⊕ Nat) → mi_H → Prop} (n sl : Nat) (f : Nat → mi_C) {l1 : Nat} {l2 : Int32} (h3 : mi_W d 194 193 [some (.ref l1), some (.int l2)] [.int 1] (n, sl, f) Q) : mi_W d 194 188 [some (.ref l1), some (.int l2)] [] (n, sl, f) Q := by
  refine w_iconst (v := 1) cd_194_188 (by decide) ?_
  exact w_goto cd_194_189 (by decide) h3
theorem b_194_192 {d : Nat} {Q : (Option Value ⊕ Nat) → mi_H → Prop} (n sl : Nat) (f : Nat → mi_C) {l1 : Nat} {l2 : Int32} (h3 : mi_W d 194 193 [some (.ref l1), some (.int l2)] [.int 0] (n, sl, f) Q) : mi_W d 194 192 [some (.ref l1), some (.int l2)] [] (n, sl, f) Q := by
  refine w_iconst (v := 0) cd_194_192 (by decide) ?_
  exact h3
theorem b_194_193 {d : Nat} {Q : (Option Value ⊕ Nat) → mi_H → Prop} (n sl : Nat) (f : Nat → mi_C) {l1 : Nat} {l2 : Int32} {s3 : Int32} (h4 : s3 = 0 ∨ s3 = 1) (h5 : Q (.inl (some (.int s3))) (n, sl, f)) : mi_W d 194 193 [some (.ref l1), some (.int l2)] [.int s3] (n, sl, f) Q := by
  exact w_ireturn_z cd_194_193 (by decide +kernel) h4 h5
theorem b_194_194 {d : Nat} {Q : (Option Value ⊕ Nat) → mi_H → Prop} (n sl : Nat) (f : Nat → mi_C) {l1 : Nat} {l2 : Int32} (h3 : Q (.inl (some (.int 0))) (n, sl, f)) : mi_W d 194 194 [some (.ref l1), some (.int l2)] [] (n, sl, f) Q := by
  refine w_iconst (v := 0) cd_194_194 (by decide) ?_
  exact w_ireturn_z cd_194_195 (by decide +kernel) (by decide) h3
/-! MarloweHostModel.goOn(LMarloweHostModel$State;)I -/
set_option maxRecDepth 100000 in
theorem mq_195 : mt_q 195 = my_195 := rfl
set_option maxRecDepth 100000 in
theorem ci_195 : mt_inc 0 my_195.cd = true := by decide +kernel
theorem cd_195_0 : mt_cd 195 0 = some (.aload_n 0) := mt_cd_of (q := (0, .aload_n 0, 1)) mq_195 ci_195 (List.mem_append_left _ (show _ ∈ my_195_0 from List.mem_of_getElem? (i := 0) rfl))
theorem cd_195_1 : mt_cd 195 1 = some (.getfield 229) := mt_cd_of (q := (1, .getfield 229, 3)) mq_195 ci_195 (List.mem_append_left _ (show _ ∈ my_195_0 from List.mem_of_getElem? (i := 1) rfl))
theorem cd_195_4 : mt_cd 195 4 = some (.aload_n 0) := mt_cd_of (q := (4, .aload_n 0, 1)) mq_195 ci_195 (List.mem_append_left _ (show _ ∈ my_195_0 from List.mem_of_getElem? (i := 2) rfl))
theorem cd_195_5 : mt_cd 195 5 = some (.getfield 568) := mt_cd_of (q := (5, .getfield 568, 3)) mq_195 ci_195 (List.mem_append_left _ (show _ ∈ my_195_0 from List.mem_of_getElem? (i := 3) rfl))
theorem cd_195_8 : mt_cd 195 8 = some (.aaload) := mt_cd_of (q := (8, .aaload, 1)) mq_195 ci_195 (List.mem_append_left _ (show _ ∈ my_195_0 from List.mem_of_getElem? (i := 4) rfl))
theorem cd_195_9 : mt_cd 195 9 = some (.ifnonnull 19) := mt_cd_of (q := (9, .ifnonnull 19, 3)) mq_195 ci_195 (List.mem_append_left _ (show _ ∈ my_195_0 from List.mem_of_getElem? (i := 5) rfl))
theorem cd_195_12 : mt_cd 195 12 = some (.aload_n 0) := mt_cd_of (q := (12, .aload_n 0, 1)) mq_195 ci_195 (List.mem_append_left _ (show _ ∈ my_195_0 from List.mem_of_getElem? (i := 6) rfl))
theorem cd_195_13 : mt_cd 195 13 = some (.getfield 229) := mt_cd_of (q := (13, .getfield 229, 3)) mq_195 ci_195 (List.mem_append_left _ (show _ ∈ my_195_0 from List.mem_of_getElem? (i := 7) rfl))
theorem cd_195_16 : mt_cd 195 16 = some (.aload_n 0) := mt_cd_of (q := (16, .aload_n 0, 1)) mq_195 ci_195 (List.mem_append_left _ (show _ ∈ my_195_0 from List.mem_of_getElem? (i := 8) rfl))
theorem cd_195_17 : mt_cd 195 17 = some (.getfield 568) := mt_cd_of (q := (17, .getfield 568, 3)) mq_195 ci_195 (List.mem_append_left _ (show _ ∈ my_195_0 from List.mem_of_getElem? (i := 9) rfl))
theorem cd_195_20 : mt_cd 195 20 = some (.new 144) := mt_cd_of (q := (20, .new 144, 3)) mq_195 ci_195 (List.mem_append_left _ (show _ ∈ my_195_0 from List.mem_of_getElem? (i := 10) rfl))
theorem cd_195_23 : mt_cd 195 23 = some (.dup) := mt_cd_of (q := (23, .dup, 1)) mq_195 ci_195 (List.mem_append_left _ (show _ ∈ my_195_0 from List.mem_of_getElem? (i := 11) rfl))
theorem cd_195_24 : mt_cd 195 24 = some (.invokespecial 146) := mt_cd_of (q := (24, .invokespecial 146, 3)) mq_195 ci_195 (List.mem_append_left _ (show _ ∈ my_195_0 from List.mem_of_getElem? (i := 12) rfl))
theorem cd_195_27 : mt_cd 195 27 = some (.aastore) := mt_cd_of (q := (27, .aastore, 1)) mq_195 ci_195 (List.mem_append_left _ (show _ ∈ my_195_0 from List.mem_of_getElem? (i := 13) rfl))
theorem cd_195_28 : mt_cd 195 28 = some (.aload_n 0) := mt_cd_of (q := (28, .aload_n 0, 1)) mq_195 ci_195 (List.mem_append_left _ (show _ ∈ my_195_0 from List.mem_of_getElem? (i := 14) rfl))
theorem cd_195_29 : mt_cd 195 29 = some (.getfield 229) := mt_cd_of (q := (29, .getfield 229, 3)) mq_195 ci_195 (List.mem_append_left _ (show _ ∈ my_195_0 from List.mem_of_getElem? (i := 15) rfl))
theorem cd_195_32 : mt_cd 195 32 = some (.aload_n 0) := mt_cd_of (q := (32, .aload_n 0, 1)) mq_195 ci_195 (List.mem_append_left _ (show _ ∈ my_195_0 from List.mem_of_getElem? (i := 16) rfl))
theorem cd_195_33 : mt_cd 195 33 = some (.getfield 568) := mt_cd_of (q := (33, .getfield 568, 3)) mq_195 ci_195 (List.mem_append_left _ (show _ ∈ my_195_0 from List.mem_of_getElem? (i := 17) rfl))
theorem cd_195_36 : mt_cd 195 36 = some (.aaload) := mt_cd_of (q := (36, .aaload, 1)) mq_195 ci_195 (List.mem_append_left _ (show _ ∈ my_195_0 from List.mem_of_getElem? (i := 18) rfl))
theorem cd_195_37 : mt_cd 195 37 = some (.astore_n 2) := mt_cd_of (q := (37, .astore_n 2, 1)) mq_195 ci_195 (List.mem_append_left _ (show _ ∈ my_195_0 from List.mem_of_getElem? (i := 19) rfl))
theorem cd_195_38 : mt_cd 195 38 = some (.aload_n 0) := mt_cd_of (q := (38, .aload_n 0, 1)) mq_195 ci_195 (List.mem_append_left _ (show _ ∈ my_195_0 from List.mem_of_getElem? (i := 20) rfl))
theorem cd_195_39 : mt_cd 195 39 = some (.aload_n 2) := mt_cd_of (q := (39, .aload_n 2, 1)) mq_195 ci_195 (List.mem_append_left _ (show _ ∈ my_195_0 from List.mem_of_getElem? (i := 21) rfl))
theorem cd_195_40 : mt_cd 195 40 = some (.putfield 445) := mt_cd_of (q := (40, .putfield 445, 3)) mq_195 ci_195 (List.mem_append_left _ (show _ ∈ my_195_0 from List.mem_of_getElem? (i := 22) rfl))
theorem cd_195_43 : mt_cd 195 43 = some (.aload_n 2) := mt_cd_of (q := (43, .aload_n 2, 1)) mq_195 ci_195 (List.mem_append_left _ (show _ ∈ my_195_0 from List.mem_of_getElem? (i := 23) rfl))
theorem cd_195_44 : mt_cd 195 44 = some (.aload_n 1) := mt_cd_of (q := (44, .aload_n 1, 1)) mq_195 ci_195 (List.mem_append_left _ (show _ ∈ my_195_0 from List.mem_of_getElem? (i := 24) rfl))
theorem cd_195_45 : mt_cd 195 45 = some (.invokevirtual 525) := mt_cd_of (q := (45, .invokevirtual 525, 3)) mq_195 ci_195 (List.mem_append_left _ (show _ ∈ my_195_0 from List.mem_of_getElem? (i := 25) rfl))
theorem cd_195_48 : mt_cd 195 48 = some (.aload_n 0) := mt_cd_of (q := (48, .aload_n 0, 1)) mq_195 ci_195 (List.mem_append_left _ (show _ ∈ my_195_0 from List.mem_of_getElem? (i := 26) rfl))
theorem cd_195_49 : mt_cd 195 49 = some (.aload_n 1) := mt_cd_of (q := (49, .aload_n 1, 1)) mq_195 ci_195 (List.mem_append_left _ (show _ ∈ my_195_0 from List.mem_of_getElem? (i := 27) rfl))
theorem cd_195_50 : mt_cd 195 50 = some (.getfield 516) := mt_cd_of (q := (50, .getfield 516, 3)) mq_195 ci_195 (List.mem_append_left _ (show _ ∈ my_195_0 from List.mem_of_getElem? (i := 28) rfl))
theorem cd_195_53 : mt_cd 195 53 = some (.aload_n 1) := mt_cd_of (q := (53, .aload_n 1, 1)) mq_195 ci_195 (List.mem_append_left _ (show _ ∈ my_195_0 from List.mem_of_getElem? (i := 29) rfl))
theorem cd_195_54 : mt_cd 195 54 = some (.getfield 516) := mt_cd_of (q := (54, .getfield 516, 3)) mq_195 ci_195 (List.mem_append_left _ (show _ ∈ my_195_0 from List.mem_of_getElem? (i := 30) rfl))
theorem cd_195_57 : mt_cd 195 57 = some (.iconst 0) := mt_cd_of (q := (57, .iconst 0, 1)) mq_195 ci_195 (List.mem_append_left _ (show _ ∈ my_195_0 from List.mem_of_getElem? (i := 31) rfl))
theorem cd_195_58 : mt_cd 195 58 = some (.invokevirtual 529) := mt_cd_of (q := (58, .invokevirtual 529, 3)) mq_195 ci_195 (List.mem_append_left _ (show _ ∈ my_195_0 from List.mem_of_getElem? (i := 32) rfl))
theorem cd_195_61 : mt_cd 195 61 = some (.istore_n 3) := mt_cd_of (q := (61, .istore_n 3, 1)) mq_195 ci_195 (List.mem_append_left _ (show _ ∈ my_195_0 from List.mem_of_getElem? (i := 33) rfl))
theorem cd_195_62 : mt_cd 195 62 = some (.iload_n 3) := mt_cd_of (q := (62, .iload_n 3, 1)) mq_195 ci_195 (List.mem_append_left _ (show _ ∈ my_195_0 from List.mem_of_getElem? (i := 34) rfl))
theorem cd_195_63 : mt_cd 195 63 = some (.iconst 5) := mt_cd_of (q := (63, .iconst 5, 1)) mq_195 ci_195 (List.mem_append_left _ (show _ ∈ my_195_0 from List.mem_of_getElem? (i := 35) rfl))
theorem cd_195_64 : mt_cd 195 64 = some (.if_icmp .eq 13) := mt_cd_of (q := (64, .if_icmp .eq 13, 3)) mq_195 ci_195 (List.mem_append_left _ (show _ ∈ my_195_0 from List.mem_of_getElem? (i := 36) rfl))
theorem cd_195_67 : mt_cd 195 67 = some (.aload_n 0) := mt_cd_of (q := (67, .aload_n 0, 1)) mq_195 ci_195 (List.mem_append_left _ (show _ ∈ my_195_0 from List.mem_of_getElem? (i := 37) rfl))
theorem cd_195_68 : mt_cd 195 68 = some (.aload_n 2) := mt_cd_of (q := (68, .aload_n 2, 1)) mq_195 ci_195 (List.mem_append_left _ (show _ ∈ my_195_0 from List.mem_of_getElem? (i := 38) rfl))
theorem cd_195_69 : mt_cd 195 69 = some (.iload_n 3) := mt_cd_of (q := (69, .iload_n 3, 1)) mq_195 ci_195 (List.mem_append_left _ (show _ ∈ my_195_0 from List.mem_of_getElem? (i := 39) rfl))
theorem cd_195_70 : mt_cd 195 70 = some (.iconst 0) := mt_cd_of (q := (70, .iconst 0, 1)) mq_195 ci_195 (List.mem_append_left _ (show _ ∈ my_195_0 from List.mem_of_getElem? (i := 40) rfl))
theorem cd_195_71 : mt_cd 195 71 = some (.lconst 0) := mt_cd_of (q := (71, .lconst 0, 1)) mq_195 ci_195 (List.mem_append_left _ (show _ ∈ my_195_0 from List.mem_of_getElem? (i := 41) rfl))
theorem cd_195_72 : mt_cd 195 72 = some (.iconst (-1)) := mt_cd_of (q := (72, .iconst (-1), 1)) mq_195 ci_195 (List.mem_append_left _ (show _ ∈ my_195_0 from List.mem_of_getElem? (i := 42) rfl))
theorem cd_195_73 : mt_cd 195 73 = some (.invokevirtual 575) := mt_cd_of (q := (73, .invokevirtual 575, 3)) mq_195 ci_195 (List.mem_append_left _ (show _ ∈ my_195_0 from List.mem_of_getElem? (i := 43) rfl))
theorem cd_195_76 : mt_cd 195 76 = some (.ireturn) := mt_cd_of (q := (76, .ireturn, 1)) mq_195 ci_195 (List.mem_append_left _ (show _ ∈ my_195_0 from List.mem_of_getElem? (i := 44) rfl))
theorem cd_195_77 : mt_cd 195 77 = some (.aload_n 0) := mt_cd_of (q := (77, .aload_n 0, 1)) mq_195 ci_195 (List.mem_append_left _ (show _ ∈ my_195_0 from List.mem_of_getElem? (i := 45) rfl))
theorem cd_195_78 : mt_cd 195 78 = some (.getfield 77) := mt_cd_of (q := (78, .getfield 77, 3)) mq_195 ci_195 (List.mem_append_left _ (show _ ∈ my_195_0 from List.mem_of_getElem? (i := 46) rfl))
theorem cd_195_81 : mt_cd 195 81 = some (.aload_n 1) := mt_cd_of (q := (81, .aload_n 1, 1)) mq_195 ci_195 (List.mem_append_left _ (show _ ∈ my_195_0 from List.mem_of_getElem? (i := 47) rfl))
theorem cd_195_82 : mt_cd 195 82 = some (.getfield 496) := mt_cd_of (q := (82, .getfield 496, 3)) mq_195 ci_195 (List.mem_append_left _ (show _ ∈ my_195_0 from List.mem_of_getElem? (i := 48) rfl))
theorem cd_195_85 : mt_cd 195 85 = some (.iaload) := mt_cd_of (q := (85, .iaload, 1)) mq_195 ci_195 (List.mem_append_left _ (show _ ∈ my_195_0 from List.mem_of_getElem? (i := 49) rfl))
theorem cd_195_86 : mt_cd 195 86 = some (.iconst 4) := mt_cd_of (q := (86, .iconst 4, 1)) mq_195 ci_195 (List.mem_append_left _ (show _ ∈ my_195_0 from List.mem_of_getElem? (i := 50) rfl))
theorem cd_195_87 : mt_cd 195 87 = some (.if_icmp .eq 5) := mt_cd_of (q := (87, .if_icmp .eq 5, 3)) mq_195 ci_195 (List.mem_append_left _ (show _ ∈ my_195_0 from List.mem_of_getElem? (i := 51) rfl))
theorem cd_195_90 : mt_cd 195 90 = some (.iconst 0) := mt_cd_of (q := (90, .iconst 0, 1)) mq_195 ci_195 (List.mem_append_left _ (show _ ∈ my_195_0 from List.mem_of_getElem? (i := 52) rfl))
theorem cd_195_91 : mt_cd 195 91 = some (.ireturn) := mt_cd_of (q := (91, .ireturn, 1)) mq_195 ci_195 (List.mem_append_left _ (show _ ∈ my_195_0 from List.mem_of_getElem? (i := 53) rfl))
theorem cd_195_92 : mt_cd 195 92 = some (.aload_n 0) := mt_cd_of (q := (92, .aload_n 0, 1)) mq_195 ci_195 (List.mem_append_left _ (show _ ∈ my_195_0 from List.mem_of_getElem? (i := 54) rfl))
theorem cd_195_93 : mt_cd 195 93 = some (.getfield 92) := mt_cd_of (q := (93, .getfield 92, 3)) mq_195 ci_195 (List.mem_append_left _ (show _ ∈ my_195_0 from List.mem_of_getElem? (i := 55) rfl))
theorem cd_195_96 : mt_cd 195 96 = some (.aload_n 1) := mt_cd_of (q := (96, .aload_n 1, 1)) mq_195 ci_195 (List.mem_append_left _ (show _ ∈ my_195_0 from List.mem_of_getElem? (i := 56) rfl))
theorem cd_195_97 : mt_cd 195 97 = some (.getfield 496) := mt_cd_of (q := (97, .getfield 496, 3)) mq_195 ci_195 (List.mem_append_left _ (show _ ∈ my_195_0 from List.mem_of_getElem? (i := 57) rfl))
theorem cd_195_100 : mt_cd 195 100 = some (.iaload) := mt_cd_of (q := (100, .iaload, 1)) mq_195 ci_195 (List.mem_append_left _ (show _ ∈ my_195_0 from List.mem_of_getElem? (i := 58) rfl))
theorem cd_195_101 : mt_cd 195 101 = some (.istore 4) := mt_cd_of (q := (101, .istore 4, 2)) mq_195 ci_195 (List.mem_append_left _ (show _ ∈ my_195_0 from List.mem_of_getElem? (i := 59) rfl))
theorem cd_195_103 : mt_cd 195 103 = some (.iload 4) := mt_cd_of (q := (103, .iload 4, 2)) mq_195 ci_195 (List.mem_append_right _ ((show _ ∈ my_195_1 from List.mem_of_getElem? (i := 0) rfl)))
theorem cd_195_105 : mt_cd 195 105 = some (.ifCond .lt 56) := mt_cd_of (q := (105, .ifCond .lt 56, 3)) mq_195 ci_195 (List.mem_append_right _ ((show _ ∈ my_195_1 from List.mem_of_getElem? (i := 1) rfl)))
theorem cd_195_108 : mt_cd 195 108 = some (.aload_n 0) := mt_cd_of (q := (108, .aload_n 0, 1)) mq_195 ci_195 (List.mem_append_right _ ((show _ ∈ my_195_1 from List.mem_of_getElem? (i := 2) rfl)))
theorem cd_195_109 : mt_cd 195 109 = some (.getfield 77) := mt_cd_of (q := (109, .getfield 77, 3)) mq_195 ci_195 (List.mem_append_right _ ((show _ ∈ my_195_1 from List.mem_of_getElem? (i := 3) rfl)))
theorem cd_195_112 : mt_cd 195 112 = some (.iload 4) := mt_cd_of (q := (112, .iload 4, 2)) mq_195 ci_195 (List.mem_append_right _ ((show _ ∈ my_195_1 from List.mem_of_getElem? (i := 4) rfl)))
theorem cd_195_114 : mt_cd 195 114 = some (.iaload) := mt_cd_of (q := (114, .iaload, 1)) mq_195 ci_195 (List.mem_append_right _ ((show _ ∈ my_195_1 from List.mem_of_getElem? (i := 5) rfl)))
theorem cd_195_115 : mt_cd 195 115 = some (.bipush 8) := mt_cd_of (q := (115, .bipush 8, 2)) mq_195 ci_195 (List.mem_append_right _ ((show _ ∈ my_195_1 from List.mem_of_getElem? (i := 6) rfl)))
theorem cd_195_117 : mt_cd 195 117 = some (.if_icmp .ne 14) := mt_cd_of (q := (117, .if_icmp .ne 14, 3)) mq_195 ci_195 (List.mem_append_right _ ((show _ ∈ my_195_1 from List.mem_of_getElem? (i := 7) rfl)))
theorem cd_195_120 : mt_cd 195 120 = some (.aload_n 0) := mt_cd_of (q := (120, .aload_n 0, 1)) mq_195 ci_195 (List.mem_append_right _ ((show _ ∈ my_195_1 from List.mem_of_getElem? (i := 8) rfl)))
theorem cd_195_121 : mt_cd 195 121 = some (.aload_n 1) := mt_cd_of (q := (121, .aload_n 1, 1)) mq_195 ci_195 (List.mem_append_right _ ((show _ ∈ my_195_1 from List.mem_of_getElem? (i := 9) rfl)))
theorem cd_195_122 : mt_cd 195 122 = some (.aload_n 2) := mt_cd_of (q := (122, .aload_n 2, 1)) mq_195 ci_195 (List.mem_append_right _ ((show _ ∈ my_195_1 from List.mem_of_getElem? (i := 10) rfl)))
theorem cd_195_123 : mt_cd 195 123 = some (.iload 4) := mt_cd_of (q := (123, .iload 4, 2)) mq_195 ci_195 (List.mem_append_right _ ((show _ ∈ my_195_1 from List.mem_of_getElem? (i := 11) rfl)))
theorem cd_195_125 : mt_cd 195 125 = some (.invokevirtual 579) := mt_cd_of (q := (125, .invokevirtual 579, 3)) mq_195 ci_195 (List.mem_append_right _ ((show _ ∈ my_195_1 from List.mem_of_getElem? (i := 12) rfl)))
theorem cd_195_128 : mt_cd 195 128 = some (.goto 11) := mt_cd_of (q := (128, .goto 11, 3)) mq_195 ci_195 (List.mem_append_right _ ((show _ ∈ my_195_1 from List.mem_of_getElem? (i := 13) rfl)))
theorem cd_195_131 : mt_cd 195 131 = some (.aload_n 0) := mt_cd_of (q := (131, .aload_n 0, 1)) mq_195 ci_195 (List.mem_append_right _ ((show _ ∈ my_195_1 from List.mem_of_getElem? (i := 14) rfl)))
theorem cd_195_132 : mt_cd 195 132 = some (.aload_n 1) := mt_cd_of (q := (132, .aload_n 1, 1)) mq_195 ci_195 (List.mem_append_right _ ((show _ ∈ my_195_1 from List.mem_of_getElem? (i := 15) rfl)))
theorem cd_195_133 : mt_cd 195 133 = some (.aload_n 2) := mt_cd_of (q := (133, .aload_n 2, 1)) mq_195 ci_195 (List.mem_append_right _ ((show _ ∈ my_195_1 from List.mem_of_getElem? (i := 16) rfl)))
theorem cd_195_134 : mt_cd 195 134 = some (.iload 4) := mt_cd_of (q := (134, .iload 4, 2)) mq_195 ci_195 (List.mem_append_right _ ((show _ ∈ my_195_1 from List.mem_of_getElem? (i := 17) rfl)))
theorem cd_195_136 : mt_cd 195 136 = some (.invokevirtual 583) := mt_cd_of (q := (136, .invokevirtual 583, 3)) mq_195 ci_195 (List.mem_append_right _ ((show _ ∈ my_195_1 from List.mem_of_getElem? (i := 18) rfl)))
theorem cd_195_139 : mt_cd 195 139 = some (.istore 5) := mt_cd_of (q := (139, .istore 5, 2)) mq_195 ci_195 (List.mem_append_right _ ((show _ ∈ my_195_1 from List.mem_of_getElem? (i := 19) rfl)))
theorem cd_195_141 : mt_cd 195 141 = some (.iload 5) := mt_cd_of (q := (141, .iload 5, 2)) mq_195 ci_195 (List.mem_append_right _ ((show _ ∈ my_195_1 from List.mem_of_getElem? (i := 20) rfl)))
theorem cd_195_143 : mt_cd 195 143 = some (.ifCond .eq 6) := mt_cd_of (q := (143, .ifCond .eq 6, 3)) mq_195 ci_195 (List.mem_append_right _ ((show _ ∈ my_195_1 from List.mem_of_getElem? (i := 21) rfl)))
theorem cd_195_146 : mt_cd 195 146 = some (.iload 5) := mt_cd_of (q := (146, .iload 5, 2)) mq_195 ci_195 (List.mem_append_right _ ((show _ ∈ my_195_1 from List.mem_of_getElem? (i := 22) rfl)))
theorem cd_195_148 : mt_cd 195 148 = some (.ireturn) := mt_cd_of (q := (148, .ireturn, 1)) mq_195 ci_195 (List.mem_append_right _ ((show _ ∈ my_195_1 from List.mem_of_getElem? (i := 23) rfl)))
theorem cd_195_149 : mt_cd 195 149 = some (.aload_n 0) := mt_cd_of (q := (149, .aload_n 0, 1)) mq_195 ci_195 (List.mem_append_right _ ((show _ ∈ my_195_1 from List.mem_of_getElem? (i := 24) rfl)))
theorem cd_195_150 : mt_cd 195 150 = some (.getfield 138) := mt_cd_of (q := (150, .getfield 138, 3)) mq_195 ci_195 (List.mem_append_right _ ((show _ ∈ my_195_1 from List.mem_of_getElem? (i := 25) rfl)))
theorem cd_195_153 : mt_cd 195 153 = some (.iload 4) := mt_cd_of (q := (153, .iload 4, 2)) mq_195 ci_195 (List.mem_append_right _ ((show _ ∈ my_195_1 from List.mem_of_getElem? (i := 26) rfl)))
theorem cd_195_155 : mt_cd 195 155 = some (.iaload) := mt_cd_of (q := (155, .iaload, 1)) mq_195 ci_195 (List.mem_append_right _ ((show _ ∈ my_195_1 from List.mem_of_getElem? (i := 27) rfl)))
theorem cd_195_156 : mt_cd 195 156 = some (.istore 4) := mt_cd_of (q := (156, .istore 4, 2)) mq_195 ci_195 (List.mem_append_right _ ((show _ ∈ my_195_1 from List.mem_of_getElem? (i := 28) rfl)))
theorem cd_195_158 : mt_cd 195 158 = some (.goto (-55)) := mt_cd_of (q := (158, .goto (-55), 3)) mq_195 ci_195 (List.mem_append_right _ ((show _ ∈ my_195_1 from List.mem_of_getElem? (i := 29) rfl)))
theorem cd_195_161 : mt_cd 195 161 = some (.aload_n 2) := mt_cd_of (q := (161, .aload_n 2, 1)) mq_195 ci_195 (List.mem_append_right _ ((show _ ∈ my_195_1 from List.mem_of_getElem? (i := 30) rfl)))
theorem cd_195_162 : mt_cd 195 162 = some (.aload_n 1) := mt_cd_of (q := (162, .aload_n 1, 1)) mq_195 ci_195 (List.mem_append_right _ ((show _ ∈ my_195_1 from List.mem_of_getElem? (i := 31) rfl)))
theorem cd_195_163 : mt_cd 195 163 = some (.invokevirtual 525) := mt_cd_of (q := (163, .invokevirtual 525, 3)) mq_195 ci_195 (List.mem_append_right _ ((show _ ∈ my_195_1 from List.mem_of_getElem? (i := 32) rfl)))
theorem cd_195_166 : mt_cd 195 166 = some (.aload_n 0) := mt_cd_of (q := (166, .aload_n 0, 1)) mq_195 ci_195 (List.mem_append_right _ ((show _ ∈ my_195_1 from List.mem_of_getElem? (i := 33) rfl)))
theorem cd_195_167 : mt_cd 195 167 = some (.aload_n 2) := mt_cd_of (q := (167, .aload_n 2, 1)) mq_195 ci_195 (List.mem_append_right _ ((show _ ∈ my_195_1 from List.mem_of_getElem? (i := 34) rfl)))
theorem cd_195_168 : mt_cd 195 168 = some (.putfield 445) := mt_cd_of (q := (168, .putfield 445, 3)) mq_195 ci_195 (List.mem_append_right _ ((show _ ∈ my_195_1 from List.mem_of_getElem? (i := 35) rfl)))
theorem cd_195_171 : mt_cd 195 171 = some (.aload_n 0) := mt_cd_of (q := (171, .aload_n 0, 1)) mq_195 ci_195 (List.mem_append_right _ ((show _ ∈ my_195_1 from List.mem_of_getElem? (i := 36) rfl)))
theorem cd_195_172 : mt_cd 195 172 = some (.getfield 101) := mt_cd_of (q := (172, .getfield 101, 3)) mq_195 ci_195 (List.mem_append_right _ ((show _ ∈ my_195_1 from List.mem_of_getElem? (i := 37) rfl)))
theorem cd_195_175 : mt_cd 195 175 = some (.aload_n 1) := mt_cd_of (q := (175, .aload_n 1, 1)) mq_195 ci_195 (List.mem_append_right _ ((show _ ∈ my_195_1 from List.mem_of_getElem? (i := 38) rfl)))
theorem cd_195_176 : mt_cd 195 176 = some (.getfield 496) := mt_cd_of (q := (176, .getfield 496, 3)) mq_195 ci_195 (List.mem_append_right _ ((show _ ∈ my_195_1 from List.mem_of_getElem? (i := 39) rfl)))
theorem cd_195_179 : mt_cd 195 179 = some (.laload) := mt_cd_of (q := (179, .laload, 1)) mq_195 ci_195 (List.mem_append_right _ ((show _ ∈ my_195_1 from List.mem_of_getElem? (i := 40) rfl)))
theorem cd_195_180 : mt_cd 195 180 = some (.lstore 4) := mt_cd_of (q := (180, .lstore 4, 2)) mq_195 ci_195 (List.mem_append_right _ ((show _ ∈ my_195_1 from List.mem_of_getElem? (i := 41) rfl)))
theorem cd_195_182 : mt_cd 195 182 = some (.aload_n 0) := mt_cd_of (q := (182, .aload_n 0, 1)) mq_195 ci_195 (List.mem_append_right _ ((show _ ∈ my_195_1 from List.mem_of_getElem? (i := 42) rfl)))
theorem cd_195_183 : mt_cd 195 183 = some (.lload 4) := mt_cd_of (q := (183, .lload 4, 2)) mq_195 ci_195 (List.mem_append_right _ ((show _ ∈ my_195_1 from List.mem_of_getElem? (i := 43) rfl)))
theorem cd_195_185 : mt_cd 195 185 = some (.lload 4) := mt_cd_of (q := (185, .lload 4, 2)) mq_195 ci_195 (List.mem_append_right _ ((show _ ∈ my_195_1 from List.mem_of_getElem? (i := 44) rfl)))
theorem cd_195_187 : mt_cd 195 187 = some (.iconst 0) := mt_cd_of (q := (187, .iconst 0, 1)) mq_195 ci_195 (List.mem_append_right _ ((show _ ∈ my_195_1 from List.mem_of_getElem? (i := 45) rfl)))
theorem cd_195_188 : mt_cd 195 188 = some (.invokevirtual 529) := mt_cd_of (q := (188, .invokevirtual 529, 3)) mq_195 ci_195 (List.mem_append_right _ ((show _ ∈ my_195_1 from List.mem_of_getElem? (i := 46) rfl)))
theorem cd_195_191 : mt_cd 195 191 = some (.istore_n 3) := mt_cd_of (q := (191, .istore_n 3, 1)) mq_195 ci_195 (List.mem_append_right _ ((show _ ∈ my_195_1 from List.mem_of_getElem? (i := 47) rfl)))
theorem cd_195_192 : mt_cd 195 192 = some (.aload_n 0) := mt_cd_of (q := (192, .aload_n 0, 1)) mq_195 ci_195 (List.mem_append_right _ ((show _ ∈ my_195_1 from List.mem_of_getElem? (i := 48) rfl)))
theorem cd_195_193 : mt_cd 195 193 = some (.aload_n 2) := mt_cd_of (q := (193, .aload_n 2, 1)) mq_195 ci_195 (List.mem_append_right _ ((show _ ∈ my_195_1 from List.mem_of_getElem? (i := 49) rfl)))
theorem cd_195_194 : mt_cd 195 194 = some (.iload_n 3) := mt_cd_of (q := (194, .iload_n 3, 1)) mq_195 ci_195 (List.mem_append_right _ ((show _ ∈ my_195_1 from List.mem_of_getElem? (i := 50) rfl)))
theorem cd_195_195 : mt_cd 195 195 = some (.iconst 4) := mt_cd_of (q := (195, .iconst 4, 1)) mq_195 ci_195 (List.mem_append_right _ ((show _ ∈ my_195_1 from List.mem_of_getElem? (i := 51) rfl)))
theorem cd_195_196 : mt_cd 195 196 = some (.lload 4) := mt_cd_of (q := (196, .lload 4, 2)) mq_195 ci_195 (List.mem_append_right _ ((show _ ∈ my_195_1 from List.mem_of_getElem? (i := 52) rfl)))
theorem cd_195_198 : mt_cd 195 198 = some (.iconst (-1)) := mt_cd_of (q := (198, .iconst (-1), 1)) mq_195 ci_195 (List.mem_append_right _ ((show _ ∈ my_195_1 from List.mem_of_getElem? (i := 53) rfl)))
theorem cd_195_199 : mt_cd 195 199 = some (.invokevirtual 575) := mt_cd_of (q := (199, .invokevirtual 575, 3)) mq_195 ci_195 (List.mem_append_right _ ((show _ ∈ my_195_1 from List.mem_of_getElem? (i := 54) rfl)))
theorem cd_195_202 : mt_cd 195 202 = some (.ireturn) := mt_cd_of (q := (202, .ireturn, 1)) mq_195 ci_195 (List.mem_append_right _ ((show _ ∈ my_195_1 from List.mem_of_getElem? (i := 55) rfl)))
theorem b_195_0 {d : Nat} {Q : (Option Value ⊕ Nat) → mi_H → Prop} (n sl : Nat) (f : Nat → mi_C) {l1 : Nat} {l2 : Nat} {o3 : Option Value} {o4 : Option Value} {o5 : Option Value} {o6 : Option Value} {fs7 : List Value} {x10 : Nat} {fs12 : List Value} {x15 : Int32} (m17 i17 ka17 : Nat) (g17 : Nat → Option Nat) {w22 : Value} (h8 : f l1 = .inr (12, fs7)) (h9 : l1 < n) (h11 : fs7[82]? = some (.ref x10)) (h13 : f l1 = .inr (12, fs12)) (h14 : l1 < n) (h16 : fs12[74]? = some (.int x15)) (h18 : f x10 = .inl (ka17, m17, .inr (.inr (.inr (.inr g17))))) (h19 : x10 < n) (h20 : 4 ≤ ka17 ∧ ka17 < mt_na) (h21 : mi_ix x15 m17 i17) (h23 : va_rf (g17 i17) = w22) (h24 : w22 = .null → mi_W d 195 12 [some (.ref l1), some (.ref l2), o3, o4, o5, o6] [] (n, sl, f) Q) (h25 : ∀ q : Nat, w22 = .ref q → mi_W d 195 28 [some (.ref l1), some (.ref l2), o3, o4, o5, o6] [] (n, sl, f) Q) (h26 : w22.isRef = true) : mi_W d 195 0 [some (.ref l1), some (.ref l2), o3, o4, o5, o6] [] (n, sl, f) Q := by
  refine w_aload_n cd_195_0 rfl ?_
  refine w_getfield cd_195_1 (show mt_f 12 229 = some (12, 82) by decide +kernel) h8 h9 h11 ?_
  refine w_aload_n cd_195_4 rfl ?_
  refine w_getfield cd_195_5 (show mt_f 12 568 = some (12, 74) by decide +kernel) h13 h14 h16 ?_
  refine w_aaload (w := w22) cd_195_8 h18 h19 h20 h21 h23 ?_
  
  cases w22 with
  | null => exact w_ifnonnull_n cd_195_9 (h24 rfl)
  | ref q => exact w_ifnonnull_r cd_195_9 (by decide) (h25 q rfl)
  | _ => cases h26
theorem b_195_12 {d : Nat} {Q : (Option Value ⊕ Nat) → mi_H → Prop} (n sl : Nat) (f : Nat → mi_C) {l1 : Nat} {l2 : Nat} {o3 : Option Value} {o4 : Option Value} {o5 : Option Value} {o6 : Option Value} {fs7 : List Value} {x10 : Nat} {fs12 : List Value} {x15 : Int32} (h8 : f l1 = .inr (12, fs7)) (h9 : l1 < n) (h11 : fs7[82]? = some (.ref x10)) (h13 : f l1 = .inr (12, fs12)) (h14 : l1 < n) (h16 : fs12[74]? = some (.int x15)) (h17 : n + 1 ≤ mi_NC ∧ sl + 7 ≤ mi_NS) (h18 : n < (n + 1)) (h19 : mi_W d 135 0 (mi_en 1 [.ref n]) [] ((n + 1), (sl + 7), (va_up f n (.inr (13, mt_df 13)))) (mi_Kc d 195 24 [some (.ref l1), some (.ref l2), o3, o4, o5, o6] [.ref n, .int x15, .ref x10] Q)) : mi_W (d + 1) 195 12 [some (.ref l1), some (.ref l2), o3, o4, o5, o6] [] (n, sl, f) Q := by
  refine w_aload_n cd_195_12 rfl ?_
  refine w_getfield cd_195_13 (show mt_f 12 229 = some (12, 82) by decide +kernel) h8 h9 h11 ?_
  refine w_aload_n cd_195_16 rfl ?_
  refine w_getfield cd_195_17 (show mt_f 12 568 = some (12, 74) by decide +kernel) h13 h14 h16 ?_
  refine w_new cd_195_20 (show mt_c 12 144 = some 13 by decide +kernel) (by decide) h17 ?_
  refine w_dup_r cd_195_23 ?_
  exact w_invokespecial cd_195_24 (show mt_m 12 146 = some (135, 3) by decide +kernel) (Or.inr rfl) (by decide) (rest := [.ref n, .int x15, .ref x10]) rfl (as := [.ref n]) rfl h18 ⟨Nat.le_of_ble_eq_true rfl, Nat.le_of_ble_eq_true rfl, Nat.le_of_ble_eq_true rfl⟩ h19
theorem b_195_27 {d : Nat} {Q : (Option Value ⊕ Nat) → mi_H → Prop} (n sl : Nat) (f : Nat → mi_C) {l1 : Nat} {l2 : Nat} {o3 : Option Value} {o4 : Option Value} {o5 : Option Value} {o6 : Option Value} {s7 : Nat} {s8 : Int32} {s9 : Nat} (m10 i10 ka10 ci10 : Nat) (g10 : Nat → Option Nat) (fs10 : List Value) (h11 : s9 < n) (h12 : mi_ix s8 m10 i10) (h13 : f s9 = .inl (ka10, m10, .inr (.inr (.inr (.inr g10))))) (h14 : f s7 = .inr (ci10, fs10)) (h15 : s7 < n) (h16 : mt_ac ka10 = some ci10) (h17 : mi_W d 195 28 [some (.ref l1), some (.ref l2), o3, o4, o5, o6] [] (n, sl, (va_up f s9 (.inl (ka10, m10, .inr (.inr (.inr (.inr (va_up g10 i10 (some s7))))))))) Q) : mi_W d 195 27 [some (.ref l1), some (.ref l2), o3, o4, o5, o6] [.ref s7, .int s8, .ref s9] (n, sl, f) Q := by
  refine w_aastore cd_195_27 h13 h11 h14 h15 h16 h12 ?_
  exact h17
theorem b_195_28 {d : Nat} {Q : (Option Value ⊕ Nat) → mi_H → Prop} (n sl : Nat) (f : Nat → mi_C) {l1 : Nat} {l2 : Nat} {o3 : Option Value} {o4 : Option Value} {o5 : Option Value} {o6 : Option Value} {fs7 : List Value} {x10 : Nat} {fs12 : List Value} {x15 : Int32} (m17 i17 ka17 : Nat) (g17 : Nat → Option Nat) {x22 : Nat} {fs24 : List Value} {fs28 : List Value} (h8 : f l1 = .inr (12, fs7)) (h9 : l1 < n) (h11 : fs7[82]? = some (.ref x10)) (h13 : f l1 = .inr (12, fs12)) (h14 : l1 < n) (h16 : fs12[74]? = some (.int x15)) (h18 : f x10 = .inl (ka17, m17, .inr (.inr (.inr (.inr g17))))) (h19 : x10 < n) (h20 : 4 ≤ ka17 ∧ ka17 < mt_na) (h21 : mi_ix x15 m17 i17) (h23 : g17 i17 = some x22) (h25 : f l1 = .inr (12, fs24)) (h26 : l1 < n) (h27 : 43 < fs24.length) (h29 : (va_up f l1 (.inr (12, fs24.set 43 (.ref x22)))) x22 = .inr (13, fs28)) (h30 : x22 < n) (h31 : mi_W d 171 0 (mi_en 3 [.ref x22, .ref l2]) [] (n, sl, (va_up f l1 (.inr (12, fs24.set 43 (.ref x22))))) (mi_Kc d 195 45 [some (.ref l1), some (.ref l2), some (.ref x22), o4, o5, o6] [] Q)) : mi_W (d + 1) 195 28 [some (.ref l1), some (.ref l2), o3, o4, o5, o6] [] (n, sl, f) Q := by
  refine w_aload_n cd_195_28 rfl ?_
  refine w_getfield cd_195_29 (show mt_f 12 229 = some (12, 82) by decide +kernel) h8 h9 h11 ?_
  refine w_aload_n cd_195_32 rfl ?_
  refine w_getfield cd_195_33 (show mt_f 12 568 = some (12, 74) by decide +kernel) h13 h14 h16 ?_
  refine w_aaload (w := .ref x22) cd_195_36 h18 h19 h20 h21 (by rw [h23]; rfl) ?_
  refine w_astore_n (ls' := [some (.ref l1), some (.ref l2), some (.ref x22), o4, o5, o6]) cd_195_37 (Nat.le_of_ble_eq_true rfl) rfl ?_
  refine w_aload_n cd_195_38 rfl ?_
  refine w_aload_n cd_195_39 rfl ?_
  refine w_putfield (w := .ref x22) cd_195_40 (show mt_f 12 445 = some (12, 43) by decide +kernel) h25 h26 ⟨h27, rfl, Or.inl (by decide)⟩ ?_
  refine w_aload_n cd_195_43 rfl ?_
  refine w_aload_n cd_195_44 rfl ?_
  exact w_invokevirtual cd_195_45 (show mt_m 12 525 = some (171, 0) by decide +kernel) (rest := []) rfl (as := [.ref x22, .ref l2]) rfl h29 (Or.inl h30) ⟨Nat.le_of_ble_eq_true rfl, Nat.le_of_ble_eq_true rfl, Nat.le_of_ble_eq_true rfl⟩ h31
theorem b_195_48 {d : Nat} {Q : (Option Value ⊕ Nat) → mi_H → Prop} (n sl : Nat) (f : Nat → mi_C) {l1 : Nat} {l2 : Nat} {l3 : Nat} {o4 : Option Value} {o5 : Option Value} {o6 : Option Value} {fs7 : List Value} {x10 : Int64} {fs12 : List Value} {x15 : Int64} {fs17 : List Value} (h8 : f l2 = .inr (13, fs7)) (h9 : l2 < n) (h11 : fs7[1]? = some (.long x10)) (h13 : f l2 = .inr (13, fs12)) (h14 : l2 < n) (h16 : fs12[1]? = some (.long x15)) (h18 : f l1 = .inr (12, fs17)) (h19 : l1 < n) (h20 : mi_W d 172 0 (mi_en 8 [.ref l1, .long x10, .long x15, .int 0]) [] (n, sl, f) (mi_Kc d 195 58 [some (.ref l1), some (.ref l2), some (.ref l3), o4, o5, o6] [] Q)) : mi_W (d + 1) 195 48 [some (.ref l1), some (.ref l2), some (.ref l3), o4, o5, o6] [] (n, sl, f) Q := by
  refine w_aload_n cd_195_48 rfl ?_
  refine w_aload_n cd_195_49 rfl ?_
  refine w_getfield cd_195_50 (show mt_f 12 516 = some (13, 1) by decide +kernel) h8 h9 h11 ?_
  refine w_aload_n cd_195_53 rfl ?_
  refine w_getfield cd_195_54 (show mt_f 12 516 = some (13, 1) by decide +kernel) h13 h14 h16 ?_
  refine w_iconst (v := 0) cd_195_57 (by decide) ?_
  exact w_invokevirtual cd_195_58 (show mt_m 12 529 = some (172, 0) by decide +kernel) (rest := []) rfl (as := [.ref l1, .long x10, .long x15, .int 0]) rfl h18 (Or.inl h19) ⟨Nat.le_of_ble_eq_true rfl, Nat.le_of_ble_eq_true rfl, Nat.le_of_ble_eq_true rfl⟩ h20
theorem b_195_61 {d : Nat} {Q : (Option Value ⊕ Nat) → mi_H → Prop} (n sl : Nat) (f : Nat → mi_C) {l1 : Nat} {l2 : Nat} {l3 : Nat} {o4 : Option Value} {o5 : Option Value} {o6 : Option Value} {s7 : Int32} (h8 : s7 = 5 → mi_W d 195 77 [some (.ref l1), some (.ref l2), some (.ref l3), some (.int s7), o5, o6] [] (n, sl, f) Q) (h9 : ¬ (s7 = 5) → mi_W d 195 67 [some (.ref l1), some (.ref l2), some (.ref l3), some (.int s7), o5, o6] [] (n, sl, f) Q) : mi_W d 195 61 [some (.ref l1), some (.ref l2), some (.ref l3), o4, o5, o6] [.int s7] (n, sl, f) Q := by
  refine w_istore_n (ls' := [some (.ref l1), some (.ref l2), some (.ref l3), some (.int s7), o5, o6]) cd_195_61 (Nat.le_of_ble_eq_true rfl) rfl ?_
  refine w_iload_n cd_195_62 rfl ?_
  refine w_iconst (v := 5) cd_195_63 (by decide) ?_
  exact w_if_icmpeq cd_195_64 (by decide) h8 h9
theorem b_195_67 {d : Nat} {Q : (Option Value ⊕ Nat) → mi_H → Prop} (n sl : Nat) (f : Nat → mi_C) {l1 : Nat} {l2 : Nat} {l3 : Nat} {l4 : Int32} {o5 : Option Value} {o6 : Option Value} {fs7 : List Value} (h8 : f l1 = .inr (12, fs7)) (h9 : l1 < n) (h10 : mi_W d 196 0 (mi_en 8 [.ref l1, .ref l3, .int l4, .int 0, .long 0, .int (-1)]) [] (n, sl, f) (mi_Kc d 195 73 [some (.ref l1), some (.ref l2), some (.ref l3), some (.int l4), o5, o6] [] Q)) : mi_W (d + 1) 195 67 [some (.ref l1), some (.ref l2), some (.ref l3), some (.int l4), o5, o6] [] (n, sl, f) Q := by
  refine w_aload_n cd_195_67 rfl ?_
  refine w_aload_n cd_195_68 rfl ?_
  refine w_iload_n cd_195_69 rfl ?_
  refine w_iconst (v := 0) cd_195_70 (by decide) ?_
  refine w_lconst (lv := 0) cd_195_71 (by decide) ?_
  refine w_iconst (v := (-1)) cd_195_72 (by decide) ?_
  exact w_invokevirtual cd_195_73 (show mt_m 12 575 = some (196, 0) by decide +kernel) (rest := []) rfl (as := [.ref l1, .ref l3, .int l4, .int 0, .long 0, .int (-1)]) rfl h8 (Or.inl h9) ⟨Nat.le_of_ble_eq_true rfl, Nat.le_of_ble_eq_true rfl, Nat.le_of_ble_eq_true rfl⟩ h10
theorem b_195_76 {d : Nat} {Q : (Option Value ⊕ Nat) → mi_H → Prop} (n sl : Nat) (f : Nat → mi_C) {l1 : Nat} {l2 : Nat} {l3 : Nat} {l4 : Int32} {o5 : Option Value} {o6 : Option Value} {s7 : Int32} (h8 : Q (.inl (some (.int s7))) (n, sl, f)) : mi_W d 195 76 [some (.ref l1), some (.ref l2), some (.ref l3), some (.int l4), o5, o6] [.int s7] (n, sl, f) Q := by
  exact w_ireturn_i cd_195_76 (by decide +kernel) h8
theorem b_195_77 {d : Nat} {Q : (Option Value ⊕ Nat) → mi_H → Prop} (n sl : Nat) (f : Nat → mi_C) {l1 : Nat} {l2 : Nat} {l3 : Nat} {l4 : Int32} {o5 : Option Value} {o6 : Option Value} {fs7 : List Value} {x10 : Nat} {fs12 : List Value} {x15 : Int32} (m17 i17 : Nat) (g17 : Nat → Int32) (h8 : f l1 = .inr (12, fs7)) (h9 : l1 < n) (h11 : fs7[12]? = some (.ref x10)) (h13 : f l2 = .inr (13, fs12)) (h14 : l2 < n) (h16 : fs12[0]? = some (.int x15)) (h18 : f x10 = .inl (0, m17, .inl g17)) (h19 : x10 < n ∨ x10 = mi_SC) (h20 : mi_ix x15 m17 i17) (h21 : (g17 i17) = 4 → mi_W d 195 92 [some (.ref l1), some (.ref l2), some (.ref l3), some (.int l4), o5, o6] [] (n, sl, f) Q) (h22 : ¬ ((g17 i17) = 4) → mi_W d 195 90 [some (.ref l1), some (.ref l2), some (.ref l3), some (.int l4), o5, o6] [] (n, sl, f) Q) : mi_W d 195 77 [some (.ref l1), some (.ref l2), some (.ref l3), some (.int l4), o5, o6] [] (n, sl, f) Q := by
  refine w_aload_n cd_195_77 rfl ?_
  refine w_getfield cd_195_78 (show mt_f 12 77 = some (12, 12) by decide +kernel) h8 h9 h11 ?_
  refine w_aload_n cd_195_81 rfl ?_
  refine w_getfield cd_195_82 (show mt_f 12 496 = some (13, 0) by decide +kernel) h13 h14 h16 ?_
  refine w_iaload cd_195_85 h18 h19 h20 ?_
  refine w_iconst (v := 4) cd_195_86 (by decide) ?_
  exact w_if_icmpeq cd_195_87 (by decide) h21 h22
theorem b_195_90 {d : Nat} {Q : (Option Value ⊕ Nat) → mi_H → Prop} (n sl : Nat) (f : Nat → mi_C) {l1 : Nat} {l2 : Nat} {l3 : Nat} {l4 : Int32} {o5 : Option Value} {o6 : Option Value} (h7 : Q (.inl (some (.int 0))) (n, sl, f)) : mi_W d 195 90 [some (.ref l1), some (.ref l2), some (.ref l3), some (.int l4), o5, o6] [] (n, sl, f) Q := by
  refine w_iconst (v := 0) cd_195_90 (by decide) ?_
  exact w_ireturn_i cd_195_91 (by decide +kernel) h7
theorem b_195_92 {d : Nat} {Q : (Option Value ⊕ Nat) → mi_H → Prop} (n sl : Nat) (f : Nat → mi_C) {l1 : Nat} {l2 : Nat} {l3 : Nat} {l4 : Int32} {o5 : Option Value} {o6 : Option Value} {fs7 : List Value} {x10 : Nat} {fs12 : List Value} {x15 : Int32} (m17 i17 : Nat) (g17 : Nat → Int32) (h8 : f l1 = .inr (12, fs7)) (h9 : l1 < n) (h11 : fs7[17]? = some (.ref x10)) (h13 : f l2 = .inr (13, fs12)) (h14 : l2 < n) (h16 : fs12[0]? = some (.int x15)) (h18 : f x10 = .inl (0, m17, .inl g17)) (h19 : x10 < n ∨ x10 = mi_SC) (h20 : mi_ix x15 m17 i17) (h21 : mi_W d 195 103 [some (.ref l1), some (.ref l2), some (.ref l3), some (.int l4), some (.int (g17 i17)), o6] [] (n, sl, f) Q) : mi_W d 195 92 [some (.ref l1), some (.ref l2), some (.ref l3), some (.int l4), o5, o6] [] (n, sl, f) Q := by
  refine w_aload_n cd_195_92 rfl ?_
  refine w_getfield cd_195_93 (show mt_f 12 92 = some (12, 17) by decide +kernel) h8 h9 h11 ?_
  refine w_aload_n cd_195_96 rfl ?_
  refine w_getfield cd_195_97 (show mt_f 12 496 = some (13, 0) by decide +kernel) h13 h14 h16 ?_
  refine w_iaload cd_195_100 h18 h19 h20 ?_
  refine w_istore (ls' := [some (.ref l1), some (.ref l2), some (.ref l3), some (.int l4), some (.int (g17 i17)), o6]) cd_195_101 (Nat.le_of_ble_eq_true rfl) rfl ?_
  exact h21
theorem b_195_103 {d : Nat} {Q : (Option Value ⊕ Nat) → mi_H → Prop} (n sl : Nat) (f : Nat → mi_C) {l1 : Nat} {l2 : Nat} {l3 : Nat} {l4 : Int32} {l5 : Int32} {o6 : Option Value} (h7 : l5 < (0 : Int32) → mi_W d 195 161 [some (.ref l1), some (.ref l2), some (.ref l3), some (.int l4), some (.int l5), o6] [] (n, sl, f) Q) (h8 : ¬ (l5 < (0 : Int32)) → mi_W d 195 108 [some (.ref l1), some (.ref l2), some (.ref l3), some (.int l4), some (.int l5), o6] [] (n, sl, f) Q) : mi_W d 195 103 [some (.ref l1), some (.ref l2), some (.ref l3), some (.int l4), some (.int l5), o6] [] (n, sl, f) Q := by
  refine w_iload cd_195_103 rfl ?_
  exact w_iflt cd_195_105 (by decide) h7 h8
theorem b_195_108 {d : Nat} {Q : (Option Value ⊕ Nat) → mi_H → Prop} (n sl : Nat) (f : Nat → mi_C) {l1 : Nat} {l2 : Nat} {l3 : Nat} {l4 : Int32} {l5 : Int32} {o6 : Option Value} {fs7 : List Value} {x10 : Nat} (m12 i12 : Nat) (g12 : Nat → Int32) (h8 : f l1 = .inr (12, fs7)) (h9 : l1 < n) (h11 : fs7[12]? = some (.ref x10)) (h13 : f x10 = .inl (0, m12, .inl g12)) (h14 : x10 < n ∨ x10 = mi_SC) (h15 : mi_ix l5 m12 i12) (h16 : ¬ (g12 i12) = 8 → mi_W d 195 131 [some (.ref l1), some (.ref l2), some (.ref l3), some (.int l4), some (.int l5), o6] [] (n, sl, f) Q) (h17 : ¬ (¬ (g12 i12) = 8) → mi_W d 195 120 [some (.ref l1), some (.ref l2), some (.ref l3), some (.int l4), some (.int l5), o6] [] (n, sl, f) Q) : mi_W d 195 108 [some (.ref l1), some (.ref l2), some (.ref l3), some (.int l4), some (.int l5), o6] [] (n, sl, f) Q := by
  refine w_aload_n cd_195_108 rfl ?_
  refine w_getfield cd_195_109 (show mt_f 12 77 = some (12, 12) by decide +kernel) h8 h9 h11 ?_
  refine w_iload cd_195_112 rfl ?_
  refine w_iaload cd_195_114 h13 h14 h15 ?_
  refine w_bipush (v := 8) cd_195_115 (by decide) ?_
  exact w_if_icmpne cd_195_117 (by decide) h16 h17
theorem b_195_120 {d : Nat} {Q : (Option Value ⊕ Nat) → mi_H → Prop} (n sl : Nat) (f : Nat → mi_C) {l1 : Nat} {l2 : Nat} {l3 : Nat} {l4 : Int32} {l5 : Int32} {o6 : Option Value} {fs7 : List Value} (h8 : f l1 = .inr (12, fs7)) (h9 : l1 < n) (h10 : mi_W d 197 0 (mi_en 8 [.ref l1, .ref l2, .ref l3, .int l5]) [] (n, sl, f) (mi_Kc d 195 125 [some (.ref l1), some (.ref l2), some (.ref l3), some (.int l4), some (.int l5), o6] [] Q)) : mi_W (d + 1) 195 120 [some (.ref l1), some (.ref l2), some (.ref l3), some (.int l4), some (.int l5), o6] [] (n, sl, f) Q := by
  refine w_aload_n cd_195_120 rfl ?_
  refine w_aload_n cd_195_121 rfl ?_
  refine w_aload_n cd_195_122 rfl ?_
  refine w_iload cd_195_123 rfl ?_
  exact w_invokevirtual cd_195_125 (show mt_m 12 579 = some (197, 0) by decide +kernel) (rest := []) rfl (as := [.ref l1, .ref l2, .ref l3, .int l5]) rfl h8 (Or.inl h9) ⟨Nat.le_of_ble_eq_true rfl, Nat.le_of_ble_eq_true rfl, Nat.le_of_ble_eq_true rfl⟩ h10
theorem b_195_128 {d : Nat} {Q : (Option Value ⊕ Nat) → mi_H → Prop} (n sl : Nat) (f : Nat → mi_C) {l1 : Nat} {l2 : Nat} {l3 : Nat} {l4 : Int32} {l5 : Int32} {o6 : Option Value} {s7 : Int32} (h8 : mi_W d 195 139 [some (.ref l1), some (.ref l2), some (.ref l3), some (.int l4), some (.int l5), o6] [.int s7] (n, sl, f) Q) : mi_W d 195 128 [some (.ref l1), some (.ref l2), some (.ref l3), some (.int l4), some (.int l5), o6] [.int s7] (n, sl, f) Q := by
  exact w_goto cd_195_128 (by decide) h8
theorem b_195_131 {d : Nat} {Q : (Option Value ⊕ Nat) → mi_H → Prop} (n sl : Nat) (f : Nat → mi_C) {l1 : Nat} {l2 : Nat} {l3 : Nat} {l4 : Int32} {l5 : Int32} {o6 : Option Value} {fs7 : List Value} (h8 : f l1 = .inr (12, fs7)) (h9 : l1 < n) (h10 : mi_W d 199 0 (mi_en 6 [.ref l1, .ref l2, .ref l3, .int l5]) [] (n, sl, f) (mi_Kc d 195 136 [some (.ref l1), some (.ref l2), some (.ref l3), some (.int l4), some (.int l5), o6] [] Q)) : mi_W (d + 1) 195 131 [some (.ref l1), some (.ref l2), some (.ref l3), some (.int l4), some (.int l5), o6] [] (n, sl, f) Q := by
  refine w_aload_n cd_195_131 rfl ?_
  refine w_aload_n cd_195_132 rfl ?_
  refine w_aload_n cd_195_133 rfl ?_
  refine w_iload cd_195_134 rfl ?_
  exact w_invokevirtual cd_195_136 (show mt_m 12 583 = some (199, 0) by decide +kernel) (rest := []) rfl (as := [.ref l1, .ref l2, .ref l3, .int l5]) rfl h8 (Or.inl h9) ⟨Nat.le_of_ble_eq_true rfl, Nat.le_of_ble_eq_true rfl, Nat.le_of_ble_eq_true rfl⟩ h10
theorem b_195_139 {d : Nat} {Q : (Option Value ⊕ Nat) → mi_H → Prop} (n sl : Nat) (f : Nat → mi_C) {l1 : Nat} {l2 : Nat} {l3 : Nat} {l4 : Int32} {l5 : Int32} {o6 : Option Value} {s7 : Int32} (h8 : s7 = (0 : Int32) → mi_W d 195 149 [some (.ref l1), some (.ref l2), some (.ref l3), some (.int l4), some (.int l5), some (.int s7)] [] (n, sl, f) Q) (h9 : ¬ (s7 = (0 : Int32)) → mi_W d 195 146 [some (.ref l1), some (.ref l2), some (.ref l3), some (.int l4), some (.int l5), some (.int s7)] [] (n, sl, f) Q) : mi_W d 195 139 [some (.ref l1), some (.ref l2), some (.ref l3), some (.int l4), some (.int l5), o6] [.int s7] (n, sl, f) Q := by
  refine w_istore (ls' := [some (.ref l1), some (.ref l2), some (.ref l3), some (.int l4), some (.int l5), some (.int s7)]) cd_195_139 (Nat.le_of_ble_eq_true rfl) rfl ?_
  refine w_iload cd_195_141 rfl ?_
  exact w_ifeq cd_195_143 (by decide) h8 h9
theorem b_195_146 {d : Nat} {Q : (Option Value ⊕ Nat) → mi_H → Prop} (n sl : Nat) (f : Nat → mi_C) {l1 : Nat} {l2 : Nat} {l3 : Nat} {l4 : Int32} {l5 : Int32} {l6 : Int32} (h7 : Q (.inl (some (.int l6))) (n, sl, f)) : mi_W d 195 146 [some (.ref l1), some (.ref l2), some (.ref l3), some (.int l4), some (.int l5), some (.int l6)] [] (n, sl, f) Q := by
  refine w_iload cd_195_146 rfl ?_
  exact w_ireturn_i cd_195_148 (by decide +kernel) h7
theorem b_195_149 {d : Nat} {Q : (Option Value ⊕ Nat) → mi_H → Prop} (n sl : Nat) (f : Nat → mi_C) {l1 : Nat} {l2 : Nat} {l3 : Nat} {l4 : Int32} {l5 : Int32} {l6 : Int32} {fs7 : List Value} {x10 : Nat} (m12 i12 : Nat) (g12 : Nat → Int32) (h8 : f l1 = .inr (12, fs7)) (h9 : l1 < n) (h11 : fs7[39]? = some (.ref x10)) (h13 : f x10 = .inl (0, m12, .inl g12)) (h14 : x10 < n ∨ x10 = mi_SC) (h15 : mi_ix l5 m12 i12) (h16 : mi_W d 195 103 [some (.ref l1), some (.ref l2), some (.ref l3), some (.int l4), some (.int (g12 i12)), some (.int l6)] [] (n, sl, f) Q) : mi_W d 195 149 [some (.ref l1), some (.ref l2), some (.ref l3), some (.int l4), some (.int l5), some (.int l6)] [] (n, sl, f) Q := by
  refine w_aload_n cd_195_149 rfl ?_
  refine w_getfield cd_195_150 (show mt_f 12 138 = some (12, 39) by decide +kernel) h8 h9 h11 ?_
  refine w_iload cd_195_153 rfl ?_
  refine w_iaload cd_195_155 h13 h14 h15 ?_
  refine w_istore (ls' := [some (.ref l1), some (.ref l2), some (.ref l3), some (.int l4), some (.int (g12 i12)), some (.int l6)]) cd_195_156 (Nat.le_of_ble_eq_true rfl) rfl ?_
  exact w_goto cd_195_158 (by decide) h16
theorem b_195_161 {d : Nat} {Q : (Option Value ⊕ Nat) → mi_H → Prop} (n sl : Nat) (f : Nat → mi_C) {l1 : Nat} {l2 : Nat} {l3 : Nat} {l4 : Int32} {l5 : Int32} {o6 : Option Value} {fs7 : List Value} (h8 : f l3 = .inr (13, fs7)) (h9 : l3 < n) (h10 : mi_W d 171 0 (mi_en 3 [.ref l3, .ref l2]) [] (n, sl, f) (mi_Kc d 195 163 [some (.ref l1), some (.ref l2), some (.ref l3), some (.int l4), some (.int l5), o6] [] Q)) : mi_W (d + 1) 195 161 [some (.ref l1), some (.ref l2), some (.ref l3), some (.int l4), some (.int l5), o6] [] (n, sl, f) Q := by
  refine w_aload_n cd_195_161 rfl ?_
  refine w_aload_n cd_195_162 rfl ?_
  exact w_invokevirtual cd_195_163 (show mt_m 12 525 = some (171, 0) by decide +kernel) (rest := []) rfl (as := [.ref l3, .ref l2]) rfl h8 (Or.inl h9) ⟨Nat.le_of_ble_eq_true rfl, Nat.le_of_ble_eq_true rfl, Nat.le_of_ble_eq_true rfl⟩ h10
theorem b_195_166 {d : Nat} {Q : (Option Value ⊕ Nat) → mi_H → Prop} (n sl : Nat) (f : Nat → mi_C) {l1 : Nat} {l2 : Nat} {l3 : Nat} {l4 : Int32} {l5 : Int32} {o6 : Option Value} {fs7 : List Value} {fs11 : List Value} {x14 : Nat} {fs16 : List Value} {x19 : Int32} (m21 i21 : Nat) (g21 : Nat → Int64) {fs25 : List Value} (h8 : f l1 = .inr (12, fs7)) (h9 : l1 < n) (h10 : 43 < fs7.length) (h12 : (va_up f l1 (.inr (12, fs7.set 43 (.ref l3)))) l1 = .inr (12, fs11)) (h13 : l1 < n) (h15 : fs11[20]? = some (.ref x14)) (h17 : (va_up f l1 (.inr (12, fs7.set 43 (.ref l3)))) l2 = .inr (13, fs16)) (h18 : l2 < n) (h20 : fs16[0]? = some (.int x19)) (h22 : (va_up f l1 (.inr (12, fs7.set 43 (.ref l3)))) x14 = .inl (3, m21, .inr (.inl g21))) (h23 : x14 < n) (h24 : mi_ix x19 m21 i21) (h26 : (va_up f l1 (.inr (12, fs7.set 43 (.ref l3)))) l1 = .inr (12, fs25)) (h27 : l1 < n) (h28 : mi_W d 172 0 (mi_en 8 [.ref l1, .long (g21 i21), .long (g21 i21), .int 0]) [] (n, sl, (va_up f l1 (.inr (12, fs7.set 43 (.ref l3))))) (mi_Kc d 195 188 [some (.ref l1), some (.ref l2), some (.ref l3), some (.int l4), some (.long (g21 i21)), none] [] Q)) : mi_W (d + 1) 195 166 [some (.ref l1), some (.ref l2), some (.ref l3), some (.int l4), some (.int l5), o6] [] (n, sl, f) Q := by
  refine w_aload_n cd_195_166 rfl ?_
  refine w_aload_n cd_195_167 rfl ?_
  refine w_putfield (w := .ref l3) cd_195_168 (show mt_f 12 445 = some (12, 43) by decide +kernel) h8 h9 ⟨h10, rfl, Or.inl (by decide)⟩ ?_
  refine w_aload_n cd_195_171 rfl ?_
  refine w_getfield cd_195_172 (show mt_f 12 101 = some (12, 20) by decide +kernel) h12 h13 h15 ?_
  refine w_aload_n cd_195_175 rfl ?_
  refine w_getfield cd_195_176 (show mt_f 12 496 = some (13, 0) by decide +kernel) h17 h18 h20 ?_
  refine w_laload cd_195_179 h22 h23 h24 ?_
  refine w_lstore (ls' := [some (.ref l1), some (.ref l2), some (.ref l3), some (.int l4), some (.long (g21 i21)), none]) cd_195_180 (Nat.le_of_ble_eq_true rfl) rfl ?_
  refine w_aload_n cd_195_182 rfl ?_
  refine w_lload cd_195_183 rfl ?_
  refine w_lload cd_195_185 rfl ?_
  refine w_iconst (v := 0) cd_195_187 (by decide) ?_
  exact w_invokevirtual cd_195_188 (show mt_m 12 529 = some (172, 0) by decide +kernel) (rest := []) rfl (as := [.ref l1, .long (g21 i21), .long (g21 i21), .int 0]) rfl h26 (Or.inl h27) ⟨Nat.le_of_ble_eq_true rfl, Nat.le_of_ble_eq_true rfl, Nat.le_of_ble_eq_true rfl⟩ h28
theorem b_195_191 {d : Nat} {Q : (Option Value ⊕ Nat) → mi_H → Prop} (n sl : Nat) (f : Nat → mi_C) {l1 : Nat} {l2 : Nat} {l3 : Nat} {l4 : Int32} {l5 : Int64} {s6 : Int32} {fs7 : List Value} (h8 : f l1 = .inr (12, fs7)) (h9 : l1 < n) (h10 : mi_W d 196 0 (mi_en 8 [.ref l1, .ref l3, .int s6, .int 4, .long l5, .int (-1)]) [] (n, sl, f) (mi_Kc d 195 199 [some (.ref l1), some (.ref l2), some (.ref l3), some (.int s6), some (.long l5), none] [] Q)) : mi_W (d + 1) 195 191 [some (.ref l1), some (.ref l2), some (.ref l3), some (.int l4), some (.long l5), none] [.int s6] (n, sl, f) Q := by
  refine w_istore_n (ls' := [some (.ref l1), some (.ref l2), some (.ref l3), some (.int s6), some (.long l5), none]) cd_195_191 (Nat.le_of_ble_eq_true rfl) rfl ?_
  refine w_aload_n cd_195_192 rfl ?_
  refine w_aload_n cd_195_193 rfl ?_
  refine w_iload_n cd_195_194 rfl ?_
  refine w_iconst (v := 4) cd_195_195 (by decide) ?_
  refine w_lload cd_195_196 rfl ?_
  refine w_iconst (v := (-1)) cd_195_198 (by decide) ?_
  exact w_invokevirtual cd_195_199 (show mt_m 12 575 = some (196, 0) by decide +kernel) (rest := []) rfl (as := [.ref l1, .ref l3, .int s6, .int 4, .long l5, .int (-1)]) rfl h8 (Or.inl h9) ⟨Nat.le_of_ble_eq_true rfl, Nat.le_of_ble_eq_true rfl, Nat.le_of_ble_eq_true rfl⟩ h10
theorem b_195_202 {d : Nat} {Q : (Option Value ⊕ Nat) → mi_H → Prop} (n sl : Nat) (f : Nat → mi_C) {l1 : Nat} {l2 : Nat} {l3 : Nat} {l4 : Int32} {l5 : Int64} {s6 : Int32} (h7 : Q (.inl (some (.int s6))) (n, sl, f)) : mi_W d 195 202 [some (.ref l1), some (.ref l2), some (.ref l3), some (.int l4), some (.long l5), none] [.int s6] (n, sl, f) Q := by
  exact w_ireturn_i cd_195_202 (by decide +kernel) h7
/-! MarloweHostModel.stepped(LMarloweHostModel$State;IIJI)I -/
set_option maxRecDepth 100000 in
theorem mq_196 : mt_q 196 = my_196 := rfl
set_option maxRecDepth 100000 in
theorem ci_196 : mt_inc 0 my_196.cd = true := by decide +kernel
theorem cd_196_0 : mt_cd 196 0 = some (.aload_n 0) := mt_cd_of (q := (0, .aload_n 0, 1)) mq_196 ci_196 (List.mem_of_getElem? (i := 0) rfl)
theorem cd_196_1 : mt_cd 196 1 = some (.dup) := mt_cd_of (q := (1, .dup, 1)) mq_196 ci_196 (List.mem_of_getElem? (i := 1) rfl)
theorem cd_196_2 : mt_cd 196 2 = some (.getfield 562) := mt_cd_of (q := (2, .getfield 562, 3)) mq_196 ci_196 (List.mem_of_getElem? (i := 2) rfl)
theorem cd_196_5 : mt_cd 196 5 = some (.iconst 1) := mt_cd_of (q := (5, .iconst 1, 1)) mq_196 ci_196 (List.mem_of_getElem? (i := 3) rfl)
theorem cd_196_6 : mt_cd 196 6 = some (.iadd) := mt_cd_of (q := (6, .iadd, 1)) mq_196 ci_196 (List.mem_of_getElem? (i := 4) rfl)
theorem cd_196_7 : mt_cd 196 7 = some (.dup_x1) := mt_cd_of (q := (7, .dup_x1, 1)) mq_196 ci_196 (List.mem_of_getElem? (i := 5) rfl)
theorem cd_196_8 : mt_cd 196 8 = some (.putfield 562) := mt_cd_of (q := (8, .putfield 562, 3)) mq_196 ci_196 (List.mem_of_getElem? (i := 6) rfl)
theorem cd_196_11 : mt_cd 196 11 = some (.sipush 5000) := mt_cd_of (q := (11, .sipush 5000, 3)) mq_196 ci_196 (List.mem_of_getElem? (i := 7) rfl)
theorem cd_196_14 : mt_cd 196 14 = some (.if_icmp .le 5) := mt_cd_of (q := (14, .if_icmp .le 5, 3)) mq_196 ci_196 (List.mem_of_getElem? (i := 8) rfl)
theorem cd_196_17 : mt_cd 196 17 = some (.iconst 2) := mt_cd_of (q := (17, .iconst 2, 1)) mq_196 ci_196 (List.mem_of_getElem? (i := 9) rfl)
theorem cd_196_18 : mt_cd 196 18 = some (.ireturn) := mt_cd_of (q := (18, .ireturn, 1)) mq_196 ci_196 (List.mem_of_getElem? (i := 10) rfl)
theorem cd_196_19 : mt_cd 196 19 = some (.iload_n 2) := mt_cd_of (q := (19, .iload_n 2, 1)) mq_196 ci_196 (List.mem_of_getElem? (i := 11) rfl)
theorem cd_196_20 : mt_cd 196 20 = some (.ifCond .eq 5) := mt_cd_of (q := (20, .ifCond .eq 5, 3)) mq_196 ci_196 (List.mem_of_getElem? (i := 12) rfl)
theorem cd_196_23 : mt_cd 196 23 = some (.iconst 0) := mt_cd_of (q := (23, .iconst 0, 1)) mq_196 ci_196 (List.mem_of_getElem? (i := 13) rfl)
theorem cd_196_24 : mt_cd 196 24 = some (.ireturn) := mt_cd_of (q := (24, .ireturn, 1)) mq_196 ci_196 (List.mem_of_getElem? (i := 14) rfl)
theorem cd_196_25 : mt_cd 196 25 = some (.aload_n 0) := mt_cd_of (q := (25, .aload_n 0, 1)) mq_196 ci_196 (List.mem_of_getElem? (i := 15) rfl)
theorem cd_196_26 : mt_cd 196 26 = some (.getfield 211) := mt_cd_of (q := (26, .getfield 211, 3)) mq_196 ci_196 (List.mem_of_getElem? (i := 16) rfl)
theorem cd_196_29 : mt_cd 196 29 = some (.aload_n 0) := mt_cd_of (q := (29, .aload_n 0, 1)) mq_196 ci_196 (List.mem_of_getElem? (i := 17) rfl)
theorem cd_196_30 : mt_cd 196 30 = some (.getfield 568) := mt_cd_of (q := (30, .getfield 568, 3)) mq_196 ci_196 (List.mem_of_getElem? (i := 18) rfl)
theorem cd_196_33 : mt_cd 196 33 = some (.iload_n 3) := mt_cd_of (q := (33, .iload_n 3, 1)) mq_196 ci_196 (List.mem_of_getElem? (i := 19) rfl)
theorem cd_196_34 : mt_cd 196 34 = some (.iastore) := mt_cd_of (q := (34, .iastore, 1)) mq_196 ci_196 (List.mem_of_getElem? (i := 20) rfl)
theorem cd_196_35 : mt_cd 196 35 = some (.aload_n 0) := mt_cd_of (q := (35, .aload_n 0, 1)) mq_196 ci_196 (List.mem_of_getElem? (i := 21) rfl)
theorem cd_196_36 : mt_cd 196 36 = some (.getfield 223) := mt_cd_of (q := (36, .getfield 223, 3)) mq_196 ci_196 (List.mem_of_getElem? (i := 22) rfl)
theorem cd_196_39 : mt_cd 196 39 = some (.aload_n 0) := mt_cd_of (q := (39, .aload_n 0, 1)) mq_196 ci_196 (List.mem_of_getElem? (i := 23) rfl)
theorem cd_196_40 : mt_cd 196 40 = some (.getfield 568) := mt_cd_of (q := (40, .getfield 568, 3)) mq_196 ci_196 (List.mem_of_getElem? (i := 24) rfl)
theorem cd_196_43 : mt_cd 196 43 = some (.lload 4) := mt_cd_of (q := (43, .lload 4, 2)) mq_196 ci_196 (List.mem_of_getElem? (i := 25) rfl)
theorem cd_196_45 : mt_cd 196 45 = some (.lastore) := mt_cd_of (q := (45, .lastore, 1)) mq_196 ci_196 (List.mem_of_getElem? (i := 26) rfl)
theorem cd_196_46 : mt_cd 196 46 = some (.aload_n 0) := mt_cd_of (q := (46, .aload_n 0, 1)) mq_196 ci_196 (List.mem_of_getElem? (i := 27) rfl)
theorem cd_196_47 : mt_cd 196 47 = some (.getfield 214) := mt_cd_of (q := (47, .getfield 214, 3)) mq_196 ci_196 (List.mem_of_getElem? (i := 28) rfl)
theorem cd_196_50 : mt_cd 196 50 = some (.aload_n 0) := mt_cd_of (q := (50, .aload_n 0, 1)) mq_196 ci_196 (List.mem_of_getElem? (i := 29) rfl)
theorem cd_196_51 : mt_cd 196 51 = some (.dup) := mt_cd_of (q := (51, .dup, 1)) mq_196 ci_196 (List.mem_of_getElem? (i := 30) rfl)
theorem cd_196_52 : mt_cd 196 52 = some (.getfield 568) := mt_cd_of (q := (52, .getfield 568, 3)) mq_196 ci_196 (List.mem_of_getElem? (i := 31) rfl)
theorem cd_196_55 : mt_cd 196 55 = some (.dup_x1) := mt_cd_of (q := (55, .dup_x1, 1)) mq_196 ci_196 (List.mem_of_getElem? (i := 32) rfl)
theorem cd_196_56 : mt_cd 196 56 = some (.iconst 1) := mt_cd_of (q := (56, .iconst 1, 1)) mq_196 ci_196 (List.mem_of_getElem? (i := 33) rfl)
theorem cd_196_57 : mt_cd 196 57 = some (.iadd) := mt_cd_of (q := (57, .iadd, 1)) mq_196 ci_196 (List.mem_of_getElem? (i := 34) rfl)
theorem cd_196_58 : mt_cd 196 58 = some (.putfield 568) := mt_cd_of (q := (58, .putfield 568, 3)) mq_196 ci_196 (List.mem_of_getElem? (i := 35) rfl)
theorem cd_196_61 : mt_cd 196 61 = some (.iload 6) := mt_cd_of (q := (61, .iload 6, 2)) mq_196 ci_196 (List.mem_of_getElem? (i := 36) rfl)
theorem cd_196_63 : mt_cd 196 63 = some (.iastore) := mt_cd_of (q := (63, .iastore, 1)) mq_196 ci_196 (List.mem_of_getElem? (i := 37) rfl)
theorem cd_196_64 : mt_cd 196 64 = some (.aload_n 0) := mt_cd_of (q := (64, .aload_n 0, 1)) mq_196 ci_196 (List.mem_of_getElem? (i := 38) rfl)
theorem cd_196_65 : mt_cd 196 65 = some (.getfield 490) := mt_cd_of (q := (65, .getfield 490, 3)) mq_196 ci_196 (List.mem_of_getElem? (i := 39) rfl)
theorem cd_196_68 : mt_cd 196 68 = some (.ifCond .le 83) := mt_cd_of (q := (68, .ifCond .le 83, 3)) mq_196 ci_196 (List.mem_of_getElem? (i := 40) rfl)
theorem cd_196_71 : mt_cd 196 71 = some (.aload_n 0) := mt_cd_of (q := (71, .aload_n 0, 1)) mq_196 ci_196 (List.mem_of_getElem? (i := 41) rfl)
theorem cd_196_72 : mt_cd 196 72 = some (.aload_n 0) := mt_cd_of (q := (72, .aload_n 0, 1)) mq_196 ci_196 (List.mem_of_getElem? (i := 42) rfl)
theorem cd_196_73 : mt_cd 196 73 = some (.getfield 568) := mt_cd_of (q := (73, .getfield 568, 3)) mq_196 ci_196 (List.mem_of_getElem? (i := 43) rfl)
theorem cd_196_76 : mt_cd 196 76 = some (.putfield 565) := mt_cd_of (q := (76, .putfield 565, 3)) mq_196 ci_196 (List.mem_of_getElem? (i := 44) rfl)
theorem cd_196_79 : mt_cd 196 79 = some (.iconst 0) := mt_cd_of (q := (79, .iconst 0, 1)) mq_196 ci_196 (List.mem_of_getElem? (i := 45) rfl)
theorem cd_196_80 : mt_cd 196 80 = some (.istore 7) := mt_cd_of (q := (80, .istore 7, 2)) mq_196 ci_196 (List.mem_of_getElem? (i := 46) rfl)
theorem cd_196_82 : mt_cd 196 82 = some (.iload 7) := mt_cd_of (q := (82, .iload 7, 2)) mq_196 ci_196 (List.mem_of_getElem? (i := 47) rfl)
theorem cd_196_84 : mt_cd 196 84 = some (.aload_n 0) := mt_cd_of (q := (84, .aload_n 0, 1)) mq_196 ci_196 (List.mem_of_getElem? (i := 48) rfl)
theorem cd_196_85 : mt_cd 196 85 = some (.getfield 568) := mt_cd_of (q := (85, .getfield 568, 3)) mq_196 ci_196 (List.mem_of_getElem? (i := 49) rfl)
theorem cd_196_88 : mt_cd 196 88 = some (.if_icmp .ge 51) := mt_cd_of (q := (88, .if_icmp .ge 51, 3)) mq_196 ci_196 (List.mem_of_getElem? (i := 50) rfl)
theorem cd_196_91 : mt_cd 196 91 = some (.aload_n 0) := mt_cd_of (q := (91, .aload_n 0, 1)) mq_196 ci_196 (List.mem_of_getElem? (i := 51) rfl)
theorem cd_196_92 : mt_cd 196 92 = some (.getfield 217) := mt_cd_of (q := (92, .getfield 217, 3)) mq_196 ci_196 (List.mem_of_getElem? (i := 52) rfl)
theorem cd_196_95 : mt_cd 196 95 = some (.iload 7) := mt_cd_of (q := (95, .iload 7, 2)) mq_196 ci_196 (List.mem_of_getElem? (i := 53) rfl)
theorem cd_196_97 : mt_cd 196 97 = some (.aload_n 0) := mt_cd_of (q := (97, .aload_n 0, 1)) mq_196 ci_196 (List.mem_of_getElem? (i := 54) rfl)
theorem cd_196_98 : mt_cd 196 98 = some (.getfield 211) := mt_cd_of (q := (98, .getfield 211, 3)) mq_196 ci_196 (List.mem_of_getElem? (i := 55) rfl)
theorem cd_196_101 : mt_cd 196 101 = some (.iload 7) := mt_cd_of (q := (101, .iload 7, 2)) mq_196 ci_196 (List.mem_of_getElem? (i := 56) rfl)
theorem cd_196_103 : mt_cd 196 103 = some (.iaload) := mt_cd_of (q := (103, .iaload, 1)) mq_196 ci_196 (List.mem_of_getElem? (i := 57) rfl)
theorem cd_196_104 : mt_cd 196 104 = some (.iastore) := mt_cd_of (q := (104, .iastore, 1)) mq_196 ci_196 (List.mem_of_getElem? (i := 58) rfl)
theorem cd_196_105 : mt_cd 196 105 = some (.aload_n 0) := mt_cd_of (q := (105, .aload_n 0, 1)) mq_196 ci_196 (List.mem_of_getElem? (i := 59) rfl)
theorem cd_196_106 : mt_cd 196 106 = some (.getfield 226) := mt_cd_of (q := (106, .getfield 226, 3)) mq_196 ci_196 (List.mem_of_getElem? (i := 60) rfl)
theorem cd_196_109 : mt_cd 196 109 = some (.iload 7) := mt_cd_of (q := (109, .iload 7, 2)) mq_196 ci_196 (List.mem_of_getElem? (i := 61) rfl)
theorem cd_196_111 : mt_cd 196 111 = some (.aload_n 0) := mt_cd_of (q := (111, .aload_n 0, 1)) mq_196 ci_196 (List.mem_of_getElem? (i := 62) rfl)
theorem cd_196_112 : mt_cd 196 112 = some (.getfield 223) := mt_cd_of (q := (112, .getfield 223, 3)) mq_196 ci_196 (List.mem_of_getElem? (i := 63) rfl)
theorem cd_196_115 : mt_cd 196 115 = some (.iload 7) := mt_cd_of (q := (115, .iload 7, 2)) mq_196 ci_196 (List.mem_of_getElem? (i := 64) rfl)
theorem cd_196_117 : mt_cd 196 117 = some (.laload) := mt_cd_of (q := (117, .laload, 1)) mq_196 ci_196 (List.mem_of_getElem? (i := 65) rfl)
theorem cd_196_118 : mt_cd 196 118 = some (.lastore) := mt_cd_of (q := (118, .lastore, 1)) mq_196 ci_196 (List.mem_of_getElem? (i := 66) rfl)
theorem cd_196_119 : mt_cd 196 119 = some (.aload_n 0) := mt_cd_of (q := (119, .aload_n 0, 1)) mq_196 ci_196 (List.mem_of_getElem? (i := 67) rfl)
theorem cd_196_120 : mt_cd 196 120 = some (.getfield 220) := mt_cd_of (q := (120, .getfield 220, 3)) mq_196 ci_196 (List.mem_of_getElem? (i := 68) rfl)
theorem cd_196_123 : mt_cd 196 123 = some (.iload 7) := mt_cd_of (q := (123, .iload 7, 2)) mq_196 ci_196 (List.mem_of_getElem? (i := 69) rfl)
theorem cd_196_125 : mt_cd 196 125 = some (.aload_n 0) := mt_cd_of (q := (125, .aload_n 0, 1)) mq_196 ci_196 (List.mem_of_getElem? (i := 70) rfl)
theorem cd_196_126 : mt_cd 196 126 = some (.getfield 214) := mt_cd_of (q := (126, .getfield 214, 3)) mq_196 ci_196 (List.mem_of_getElem? (i := 71) rfl)
theorem cd_196_129 : mt_cd 196 129 = some (.iload 7) := mt_cd_of (q := (129, .iload 7, 2)) mq_196 ci_196 (List.mem_of_getElem? (i := 72) rfl)
theorem cd_196_131 : mt_cd 196 131 = some (.iaload) := mt_cd_of (q := (131, .iaload, 1)) mq_196 ci_196 (List.mem_of_getElem? (i := 73) rfl)
theorem cd_196_132 : mt_cd 196 132 = some (.iastore) := mt_cd_of (q := (132, .iastore, 1)) mq_196 ci_196 (List.mem_of_getElem? (i := 74) rfl)
theorem cd_196_133 : mt_cd 196 133 = some (.iinc 7 1) := mt_cd_of (q := (133, .iinc 7 1, 3)) mq_196 ci_196 (List.mem_of_getElem? (i := 75) rfl)
theorem cd_196_136 : mt_cd 196 136 = some (.goto (-54)) := mt_cd_of (q := (136, .goto (-54), 3)) mq_196 ci_196 (List.mem_of_getElem? (i := 76) rfl)
theorem cd_196_139 : mt_cd 196 139 = some (.aload_n 0) := mt_cd_of (q := (139, .aload_n 0, 1)) mq_196 ci_196 (List.mem_of_getElem? (i := 77) rfl)
theorem cd_196_140 : mt_cd 196 140 = some (.dup) := mt_cd_of (q := (140, .dup, 1)) mq_196 ci_196 (List.mem_of_getElem? (i := 78) rfl)
theorem cd_196_141 : mt_cd 196 141 = some (.getfield 568) := mt_cd_of (q := (141, .getfield 568, 3)) mq_196 ci_196 (List.mem_of_getElem? (i := 79) rfl)
theorem cd_196_144 : mt_cd 196 144 = some (.iconst 1) := mt_cd_of (q := (144, .iconst 1, 1)) mq_196 ci_196 (List.mem_of_getElem? (i := 80) rfl)
theorem cd_196_145 : mt_cd 196 145 = some (.isub) := mt_cd_of (q := (145, .isub, 1)) mq_196 ci_196 (List.mem_of_getElem? (i := 81) rfl)
theorem cd_196_146 : mt_cd 196 146 = some (.putfield 568) := mt_cd_of (q := (146, .putfield 568, 3)) mq_196 ci_196 (List.mem_of_getElem? (i := 82) rfl)
theorem cd_196_149 : mt_cd 196 149 = some (.iconst 1) := mt_cd_of (q := (149, .iconst 1, 1)) mq_196 ci_196 (List.mem_of_getElem? (i := 83) rfl)
theorem cd_196_150 : mt_cd 196 150 = some (.ireturn) := mt_cd_of (q := (150, .ireturn, 1)) mq_196 ci_196 (List.mem_of_getElem? (i := 84) rfl)
theorem cd_196_151 : mt_cd 196 151 = some (.aload_n 0) := mt_cd_of (q := (151, .aload_n 0, 1)) mq_196 ci_196 (List.mem_of_getElem? (i := 85) rfl)
theorem cd_196_152 : mt_cd 196 152 = some (.aload_n 1) := mt_cd_of (q := (152, .aload_n 1, 1)) mq_196 ci_196 (List.mem_of_getElem? (i := 86) rfl)
theorem cd_196_153 : mt_cd 196 153 = some (.invokevirtual 571) := mt_cd_of (q := (153, .invokevirtual 571, 3)) mq_196 ci_196 (List.mem_of_getElem? (i := 87) rfl)
theorem cd_196_156 : mt_cd 196 156 = some (.istore 7) := mt_cd_of (q := (156, .istore 7, 2)) mq_196 ci_196 (List.mem_of_getElem? (i := 88) rfl)
theorem cd_196_158 : mt_cd 196 158 = some (.aload_n 0) := mt_cd_of (q := (158, .aload_n 0, 1)) mq_196 ci_196 (List.mem_of_getElem? (i := 89) rfl)
theorem cd_196_159 : mt_cd 196 159 = some (.dup) := mt_cd_of (q := (159, .dup, 1)) mq_196 ci_196 (List.mem_of_getElem? (i := 90) rfl)
theorem cd_196_160 : mt_cd 196 160 = some (.getfield 568) := mt_cd_of (q := (160, .getfield 568, 3)) mq_196 ci_196 (List.mem_of_getElem? (i := 91) rfl)
theorem cd_196_163 : mt_cd 196 163 = some (.iconst 1) := mt_cd_of (q := (163, .iconst 1, 1)) mq_196 ci_196 (List.mem_of_getElem? (i := 92) rfl)
theorem cd_196_164 : mt_cd 196 164 = some (.isub) := mt_cd_of (q := (164, .isub, 1)) mq_196 ci_196 (List.mem_of_getElem? (i := 93) rfl)
theorem cd_196_165 : mt_cd 196 165 = some (.putfield 568) := mt_cd_of (q := (165, .putfield 568, 3)) mq_196 ci_196 (List.mem_of_getElem? (i := 94) rfl)
theorem cd_196_168 : mt_cd 196 168 = some (.iload 7) := mt_cd_of (q := (168, .iload 7, 2)) mq_196 ci_196 (List.mem_of_getElem? (i := 95) rfl)
theorem cd_196_170 : mt_cd 196 170 = some (.ireturn) := mt_cd_of (q := (170, .ireturn, 1)) mq_196 ci_196 (List.mem_of_getElem? (i := 96) rfl)
theorem b_196_0 {d : Nat} {Q : (Option Value ⊕ Nat) → mi_H → Prop} (n sl : Nat) (f : Nat → mi_C) {l1 : Nat} {l2 : Nat} {l3 : Int32} {l4 : Int32} {l5 : Int64} {l6 : Int32} {o7 : Option Value} {fs8 : List Value} {x11 : Int32} {fs13 : List Value} (h9 : f l1 = .inr (12, fs8)) (h10 : l1 < n) (h12 : fs8[73]? = some (.int x11)) (h14 : f l1 = .inr (12, fs13)) (h15 : l1 < n) (h16 : 73 < fs13.length) (h17 : (x11 + 1) ≤ 5000 → mi_W d 196 19 [some (.ref l1), some (.ref l2), some (.int l3), some (.int l4), some (.long l5), none, some (.int l6), o7] [] (n, sl, (va_up f l1 (.inr (12, fs13.set 73 (.int (x11 + 1)))))) Q) (h18 : ¬ ((x11 + 1) ≤ 5000) → mi_W d 196 17 [some (.ref l1), some (.ref l2), some (.int l3), some (.int l4), some (.long l5), none, some (.int l6), o7] [] (n, sl, (va_up f l1 (.inr (12, fs13.set 73 (.int (x11 + 1)))))) Q) : mi_W d 196 0 [some (.ref l1), some (.ref l2), some (.int l3), some (.int l4), some (.long l5), none, some (.int l6), o7] [] (n, sl, f) Q := by
  refine w_aload_n cd_196_0 rfl ?_
  refine w_dup_r cd_196_1 ?_
  refine w_getfield cd_196_2 (show mt_f 12 562 = some (12, 73) by decide +kernel) h9 h10 h12 ?_
  refine w_iconst (v := 1) cd_196_5 (by decide) ?_
  refine w_iadd cd_196_6 ?_
  refine w_dup_x1_ir cd_196_7 ?_
  refine w_putfield (w := .int (x11 + 1)) cd_196_8 (show mt_f 12 562 = some (12, 73) by decide +kernel) h14 h15 ⟨h16, rfl, Or.inl (by decide)⟩ ?_
  refine w_sipush (v := 5000) cd_196_11 (by decide) ?_
  exact w_if_icmple cd_196_14 (by decide) h17 h18
theorem b_196_17 {d : Nat} {Q : (Option Value ⊕ Nat) → mi_H → Prop} (n sl : Nat) (f : Nat → mi_C) {l1 : Nat} {l2 : Nat} {l3 : Int32} {l4 : Int32} {l5 : Int64} {l6 : Int32} {o7 : Option Value} (h8 : Q (.inl (some (.int 2))) (n, sl, f)) : mi_W d 196 17 [some (.ref l1), some (.ref l2), some (.int l3), some (.int l4), some (.long l5), none, some (.int l6), o7] [] (n, sl, f) Q := by
  refine w_iconst (v := 2) cd_196_17 (by decide) ?_
  exact w_ireturn_i cd_196_18 (by decide +kernel) h8
theorem b_196_19 {d : Nat} {Q : (Option Value ⊕ Nat) → mi_H → Prop} (n sl : Nat) (f : Nat → mi_C) {l1 : Nat} {l2 : Nat} {l3 : Int32} {l4 : Int32} {l5 : Int64} {l6 : Int32} {o7 : Option Value} (h8 : l3 = (0 : Int32) → mi_W d 196 25 [some (.ref l1), some (.ref l2), some (.int l3), some (.int l4), some (.long l5), none, some (.int l6), o7] [] (n, sl, f) Q) (h9 : ¬ (l3 = (0 : Int32)) → mi_W d 196 23 [some (.ref l1), some (.ref l2), some (.int l3), some (.int l4), some (.long l5), none, some (.int l6), o7] [] (n, sl, f) Q) : mi_W d 196 19 [some (.ref l1), some (.ref l2), some (.int l3), some (.int l4), some (.long l5), none, some (.int l6), o7] [] (n, sl, f) Q := by
  refine w_iload_n cd_196_19 rfl ?_
  exact w_ifeq cd_196_20 (by decide) h8 h9
theorem b_196_23 {d : Nat} {Q : (Option Value ⊕ Nat) → mi_H → Prop} (n sl : Nat) (f : Nat → mi_C) {l1 : Nat} {l2 : Nat} {l3 : Int32} {l4 : Int32} {l5 : Int64} {l6 : Int32} {o7 : Option Value} (h8 : Q (.inl (some (.int 0))) (n, sl, f)) : mi_W d 196 23 [some (.ref l1), some (.ref l2), some (.int l3), some (.int l4), some (.long l5), none, some (.int l6), o7] [] (n, sl, f) Q := by
  refine w_iconst (v := 0) cd_196_23 (by decide) ?_
  exact w_ireturn_i cd_196_24 (by decide +kernel) h8
theorem b_196_25 {d : Nat} {Q : (Option Value ⊕ Nat) → mi_H → Prop} (n sl : Nat) (f : Nat → mi_C) {l1 : Nat} {l2 : Nat} {l3 : Int32} {l4 : Int32} {l5 : Int64} {l6 : Int32} {o7 : Option Value} {fs8 : List Value} {x11 : Nat} {fs13 : List Value} {x16 : Int32} (m18 i18 : Nat) (g18 : Nat → Int32) {fs22 : List Value} {x25 : Nat} {fs27 : List Value} {x30 : Int32} (m32 i32 : Nat) (g32 : Nat → Int64) {fs36 : List Value} {x39 : Nat} {fs41 : List Value} {x44 : Int32} {fs46 : List Value} (m50 i50 : Nat) (g50 : Nat → Int32) {fs54 : List Value} {x57 : Int32} (h9 : f l1 = .inr (12, fs8)) (h10 : l1 < n) (h12 : fs8[76]? = some (.ref x11)) (h14 : f l1 = .inr (12, fs13)) (h15 : l1 < n) (h17 : fs13[74]? = some (.int x16)) (h19 : f x11 = .inl (0, m18, .inl g18)) (h20 : x11 < n) (h21 : mi_ix x16 m18 i18) (h23 : (va_up f x11 (.inl (0, m18, .inl (upd g18 i18 l4)))) l1 = .inr (12, fs22)) (h24 : l1 < n) (h26 : fs22[80]? = some (.ref x25)) (h28 : (va_up f x11 (.inl (0, m18, .inl (upd g18 i18 l4)))) l1 = .inr (12, fs27)) (h29 : l1 < n) (h31 : fs27[74]? = some (.int x30)) (h33 : (va_up f x11 (.inl (0, m18, .inl (upd g18 i18 l4)))) x25 = .inl (3, m32, .inr (.inl g32))) (h34 : x25 < n) (h35 : mi_ix x30 m32 i32) (h37 : (va_up (va_up f x11 (.inl (0, m18, .inl (upd g18 i18 l4)))) x25 (.inl (3, m32, .inr (.inl (vp_updL g32 i32 l5))))) l1 = .inr (12, fs36)) (h38 : l1 < n) (h40 : fs36[77]? = some (.ref x39)) (h42 : (va_up (va_up f x11 (.inl (0, m18, .inl (upd g18 i18 l4)))) x25 (.inl (3, m32, .inr (.inl (vp_updL g32 i32 l5))))) l1 = .inr (12, fs41)) (h43 : l1 < n) (h45 : fs41[74]? = some (.int x44)) (h47 : (va_up (va_up f x11 (.inl (0, m18, .inl (upd g18 i18 l4)))) x25 (.inl (3, m32, .inr (.inl (vp_updL g32 i32 l5))))) l1 = .inr (12, fs46)) (h48 : l1 < n) (h49 : 74 < fs46.length) (h51 : (va_up (va_up (va_up f x11 (.inl (0, m18, .inl (upd g18 i18 l4)))) x25 (.inl (3, m32, .inr (.inl (vp_updL g32 i32 l5))))) l1 (.inr (12, fs46.set 74 (.int (x44 + 1))))) x39 = .inl (0, m50, .inl g50)) (h52 : x39 < n) (h53 : mi_ix x44 m50 i50) (h55 : (va_up (va_up (va_up (va_up f x11 (.inl (0, m18, .inl (upd g18 i18 l4)))) x25 (.inl (3, m32, .inr (.inl (vp_updL g32 i32 l5))))) l1 (.inr (12, fs46.set 74 (.int (x44 + 1))))) x39 (.inl (0, m50, .inl (upd g50 i50 l6)))) l1 = .inr (12, fs54)) (h56 : l1 < n) (h58 : fs54[47]? = some (.int x57)) (h59 : x57 ≤ (0 : Int32) → mi_W d 196 151 [some (.ref l1), some (.ref l2), some (.int l3), some (.int l4), some (.long l5), none, some (.int l6), o7] [] (n, sl, (va_up (va_up (va_up (va_up f x11 (.inl (0, m18, .inl (upd g18 i18 l4)))) x25 (.inl (3, m32, .inr (.inl (vp_updL g32 i32 l5))))) l1 (.inr (12, fs46.set 74 (.int (x44 + 1))))) x39 (.inl (0, m50, .inl (upd g50 i50 l6))))) Q) (h60 : ¬ (x57 ≤ (0 : Int32)) → mi_W d 196 71 [some (.ref l1), some (.ref l2), some (.int l3), some (.int l4), some (.long l5), none, some (.int l6), o7] [] (n, sl, (va_up (va_up (va_up (va_up f x11 (.inl (0, m18, .inl (upd g18 i18 l4)))) x25 (.inl (3, m32, .inr (.inl (vp_updL g32 i32 l5))))) l1 (.inr (12, fs46.set 74 (.int (x44 + 1))))) x39 (.inl (0, m50, .inl (upd g50 i50 l6))))) Q) : mi_W d 196 25 [some (.ref l1), some (.ref l2), some (.int l3), some (.int l4), some (.long l5), none, some (.int l6), o7] [] (n, sl, f) Q := by
  refine w_aload_n cd_196_25 rfl ?_
  refine w_getfield cd_196_26 (show mt_f 12 211 = some (12, 76) by decide +kernel) h9 h10 h12 ?_
  refine w_aload_n cd_196_29 rfl ?_
  refine w_getfield cd_196_30 (show mt_f 12 568 = some (12, 74) by decide +kernel) h14 h15 h17 ?_
  refine w_iload_n cd_196_33 rfl ?_
  refine w_iastore cd_196_34 h19 h20 h21 ?_
  refine w_aload_n cd_196_35 rfl ?_
  refine w_getfield cd_196_36 (show mt_f 12 223 = some (12, 80) by decide +kernel) h23 h24 h26 ?_
  refine w_aload_n cd_196_39 rfl ?_
  refine w_getfield cd_196_40 (show mt_f 12 568 = some (12, 74) by decide +kernel) h28 h29 h31 ?_
  refine w_lload cd_196_43 rfl ?_
  refine w_lastore cd_196_45 h33 h34 h35 ?_
  refine w_aload_n cd_196_46 rfl ?_
  refine w_getfield cd_196_47 (show mt_f 12 214 = some (12, 77) by decide +kernel) h37 h38 h40 ?_
  refine w_aload_n cd_196_50 rfl ?_
  refine w_dup_r cd_196_51 ?_
  refine w_getfield cd_196_52 (show mt_f 12 568 = some (12, 74) by decide +kernel) h42 h43 h45 ?_
  refine w_dup_x1_ir cd_196_55 ?_
  refine w_iconst (v := 1) cd_196_56 (by decide) ?_
  refine w_iadd cd_196_57 ?_
  refine w_putfield (w := .int (x44 + 1)) cd_196_58 (show mt_f 12 568 = some (12, 74) by decide +kernel) h47 h48 ⟨h49, rfl, Or.inl (by decide)⟩ ?_
  refine w_iload cd_196_61 rfl ?_
  refine w_iastore cd_196_63 h51 h52 h53 ?_
  refine w_aload_n cd_196_64 rfl ?_
  refine w_getfield cd_196_65 (show mt_f 12 490 = some (12, 47) by decide +kernel) h55 h56 h58 ?_
  exact w_ifle cd_196_68 (by decide) h59 h60
theorem b_196_71 {d : Nat} {Q : (Option Value ⊕ Nat) → mi_H → Prop} (n sl : Nat) (f : Nat → mi_C) {l1 : Nat} {l2 : Nat} {l3 : Int32} {l4 : Int32} {l5 : Int64} {l6 : Int32} {o7 : Option Value} {fs8 : List Value} {x11 : Int32} {fs13 : List Value} (h9 : f l1 = .inr (12, fs8)) (h10 : l1 < n) (h12 : fs8[74]? = some (.int x11)) (h14 : f l1 = .inr (12, fs13)) (h15 : l1 < n) (h16 : 75 < fs13.length) (h17 : mi_W d 196 82 [some (.ref l1), some (.ref l2), some (.int l3), some (.int l4), some (.long l5), none, some (.int l6), some (.int 0)] [] (n, sl, (va_up f l1 (.inr (12, fs13.set 75 (.int x11))))) Q) : mi_W d 196 71 [some (.ref l1), some (.ref l2), some (.int l3), some (.int l4), some (.long l5), none, some (.int l6), o7] [] (n, sl, f) Q := by
  refine w_aload_n cd_196_71 rfl ?_
  refine w_aload_n cd_196_72 rfl ?_
  refine w_getfield cd_196_73 (show mt_f 12 568 = some (12, 74) by decide +kernel) h9 h10 h12 ?_
  refine w_putfield (w := .int x11) cd_196_76 (show mt_f 12 565 = some (12, 75) by decide +kernel) h14 h15 ⟨h16, rfl, Or.inl (by decide)⟩ ?_
  refine w_iconst (v := 0) cd_196_79 (by decide) ?_
  refine w_istore (ls' := [some (.ref l1), some (.ref l2), some (.int l3), some (.int l4), some (.long l5), none, some (.int l6), some (.int 0)]) cd_196_80 (Nat.le_of_ble_eq_true rfl) rfl ?_
  exact h17
theorem b_196_82 {d : Nat} {Q : (Option Value ⊕ Nat) → mi_H → Prop} (n sl : Nat) (f : Nat → mi_C) {l1 : Nat} {l2 : Nat} {l3 : Int32} {l4 : Int32} {l5 : Int64} {l6 : Int32} {l7 : Int32} {fs8 : List Value} {x11 : Int32} (h9 : f l1 = .inr (12, fs8)) (h10 : l1 < n) (h12 : fs8[74]? = some (.int x11)) (h13 : x11 ≤ l7 → mi_W d 196 139 [some (.ref l1), some (.ref l2), some (.int l3), some (.int l4), some (.long l5), none, some (.int l6), some (.int l7)] [] (n, sl, f) Q) (h14 : ¬ (x11 ≤ l7) → mi_W d 196 91 [some (.ref l1), some (.ref l2), some (.int l3), some (.int l4), some (.long l5), none, some (.int l6), some (.int l7)] [] (n, sl, f) Q) : mi_W d 196 82 [some (.ref l1), some (.ref l2), some (.int l3), some (.int l4), some (.long l5), none, some (.int l6), some (.int l7)] [] (n, sl, f) Q := by
  refine w_iload cd_196_82 rfl ?_
  refine w_aload_n cd_196_84 rfl ?_
  refine w_getfield cd_196_85 (show mt_f 12 568 = some (12, 74) by decide +kernel) h9 h10 h12 ?_
  exact w_if_icmpge cd_196_88 (by decide) h13 h14
theorem b_196_91 {d : Nat} {Q : (Option Value ⊕ Nat) → mi_H → Prop} (n sl : Nat) (f : Nat → mi_C) {l1 : Nat} {l2 : Nat} {l3 : Int32} {l4 : Int32} {l5 : Int64} {l6 : Int32} {l7 : Int32} {fs8 : List Value} {x11 : Nat} {fs13 : List Value} {x16 : Nat} (m18 i18 : Nat) (g18 : Nat → Int32) (m22 i22 : Nat) (g22 : Nat → Int32) {fs26 : List Value} {x29 : Nat} {fs31 : List Value} {x34 : Nat} (m36 i36 : Nat) (g36 : Nat → Int64) (m40 i40 : Nat) (g40 : Nat → Int64) {fs44 : List Value} {x47 : Nat} {fs49 : List Value} {x52 : Nat} (m54 i54 : Nat) (g54 : Nat → Int32) (m58 i58 : Nat) (g58 : Nat → Int32) (h9 : f l1 = .inr (12, fs8)) (h10 : l1 < n) (h12 : fs8[78]? = some (.ref x11)) (h14 : f l1 = .inr (12, fs13)) (h15 : l1 < n) (h17 : fs13[76]? = some (.ref x16)) (h19 : f x16 = .inl (0, m18, .inl g18)) (h20 : x16 < n ∨ x16 = mi_SC) (h21 : mi_ix l7 m18 i18) (h23 : f x11 = .inl (0, m22, .inl g22)) (h24 : x11 < n) (h25 : mi_ix l7 m22 i22) (h27 : (va_up f x11 (.inl (0, m22, .inl (upd g22 i22 (g18 i18))))) l1 = .inr (12, fs26)) (h28 : l1 < n) (h30 : fs26[81]? = some (.ref x29)) (h32 : (va_up f x11 (.inl (0, m22, .inl (upd g22 i22 (g18 i18))))) l1 = .inr (12, fs31)) (h33 : l1 < n) (h35 : fs31[80]? = some (.ref x34)) (h37 : (va_up f x11 (.inl (0, m22, .inl (upd g22 i22 (g18 i18))))) x34 = .inl (3, m36, .inr (.inl g36))) (h38 : x34 < n) (h39 : mi_ix l7 m36 i36) (h41 : (va_up f x11 (.inl (0, m22, .inl (upd g22 i22 (g18 i18))))) x29 = .inl (3, m40, .inr (.inl g40))) (h42 : x29 < n) (h43 : mi_ix l7 m40 i40) (h45 : (va_up (va_up f x11 (.inl (0, m22, .inl (upd g22 i22 (g18 i18))))) x29 (.inl (3, m40, .inr (.inl (vp_updL g40 i40 (g36 i36)))))) l1 = .inr (12, fs44)) (h46 : l1 < n) (h48 : fs44[79]? = some (.ref x47)) (h50 : (va_up (va_up f x11 (.inl (0, m22, .inl (upd g22 i22 (g18 i18))))) x29 (.inl (3, m40, .inr (.inl (vp_updL g40 i40 (g36 i36)))))) l1 = .inr (12, fs49)) (h51 : l1 < n) (h53 : fs49[77]? = some (.ref x52)) (h55 : (va_up (va_up f x11 (.inl (0, m22, .inl (upd g22 i22 (g18 i18))))) x29 (.inl (3, m40, .inr (.inl (vp_updL g40 i40 (g36 i36)))))) x52 = .inl (0, m54, .inl g54)) (h56 : x52 < n ∨ x52 = mi_SC) (h57 : mi_ix l7 m54 i54) (h59 : (va_up (va_up f x11 (.inl (0, m22, .inl (upd g22 i22 (g18 i18))))) x29 (.inl (3, m40, .inr (.inl (vp_updL g40 i40 (g36 i36)))))) x47 = .inl (0, m58, .inl g58)) (h60 : x47 < n) (h61 : mi_ix l7 m58 i58) (h62 : mi_W d 196 82 [some (.ref l1), some (.ref l2), some (.int l3), some (.int l4), some (.long l5), none, some (.int l6), some (.int (l7 + 1))] [] (n, sl, (va_up (va_up (va_up f x11 (.inl (0, m22, .inl (upd g22 i22 (g18 i18))))) x29 (.inl (3, m40, .inr (.inl (vp_updL g40 i40 (g36 i36)))))) x47 (.inl (0, m58, .inl (upd g58 i58 (g54 i54)))))) Q) : mi_W d 196 91 [some (.ref l1), some (.ref l2), some (.int l3), some (.int l4), some (.long l5), none, some (.int l6), some (.int l7)] [] (n, sl, f) Q := by
  refine w_aload_n cd_196_91 rfl ?_
  refine w_getfield cd_196_92 (show mt_f 12 217 = some (12, 78) by decide +kernel) h9 h10 h12 ?_
  refine w_iload cd_196_95 rfl ?_
  refine w_aload_n cd_196_97 rfl ?_
  refine w_getfield cd_196_98 (show mt_f 12 211 = some (12, 76) by decide +kernel) h14 h15 h17 ?_
  refine w_iload cd_196_101 rfl ?_
  refine w_iaload cd_196_103 h19 h20 h21 ?_
  refine w_iastore cd_196_104 h23 h24 h25 ?_
  refine w_aload_n cd_196_105 rfl ?_
  refine w_getfield cd_196_106 (show mt_f 12 226 = some (12, 81) by decide +kernel) h27 h28 h30 ?_
  refine w_iload cd_196_109 rfl ?_
  refine w_aload_n cd_196_111 rfl ?_
  refine w_getfield cd_196_112 (show mt_f 12 223 = some (12, 80) by decide +kernel) h32 h33 h35 ?_
  refine w_iload cd_196_115 rfl ?_
  refine w_laload cd_196_117 h37 h38 h39 ?_
  refine w_lastore cd_196_118 h41 h42 h43 ?_
  refine w_aload_n cd_196_119 rfl ?_
  refine w_getfield cd_196_120 (show mt_f 12 220 = some (12, 79) by decide +kernel) h45 h46 h48 ?_
  refine w_iload cd_196_123 rfl ?_
  refine w_aload_n cd_196_125 rfl ?_
  refine w_getfield cd_196_126 (show mt_f 12 214 = some (12, 77) by decide +kernel) h50 h51 h53 ?_
  refine w_iload cd_196_129 rfl ?_
  refine w_iaload cd_196_131 h55 h56 h57 ?_
  refine w_iastore cd_196_132 h59 h60 h61 ?_
  refine w_iinc (v := 1) (ls' := [some (.ref l1), some (.ref l2), some (.int l3), some (.int l4), some (.long l5), none, some (.int l6), some (.int (l7 + 1))]) cd_196_133 rfl (by decide) rfl ?_
  exact w_goto cd_196_136 (by decide) h62
theorem b_196_139 {d : Nat} {Q : (Option Value ⊕ Nat) → mi_H → Prop} (n sl : Nat) (f : Nat → mi_C) {l1 : Nat} {l2 : Nat} {l3 : Int32} {l4 : Int32} {l5 : Int64} {l6 : Int32} {l7 : Int32} {fs8 : List Value} {x11 : Int32} {fs13 : List Value} (h9 : f l1 = .inr (12, fs8)) (h10 : l1 < n) (h12 : fs8[74]? = some (.int x11)) (h14 : f l1 = .inr (12, fs13)) (h15 : l1 < n) (h16 : 74 < fs13.length) (h17 : Q (.inl (some (.int 1))) (n, sl, (va_up f l1 (.inr (12, fs13.set 74 (.int (x11 - 1))))))) : mi_W d 196 139 [some (.ref l1), some (.ref l2), some (.int l3), some (.int l4), some (.long l5), none, some (.int l6), some (.int l7)] [] (n, sl, f) Q := by
  refine w_aload_n cd_196_139 rfl ?_
  refine w_dup_r cd_196_140 ?_
  refine w_getfield cd_196_141 (show mt_f 12 568 = some (12, 74) by decide +kernel) h9 h10 h12 ?_
  refine w_iconst (v := 1) cd_196_144 (by decide) ?_
  refine w_isub cd_196_145 ?_
  refine w_putfield (w := .int (x11 - 1)) cd_196_146 (show mt_f 12 568 = some (12, 74) by decide +kernel) h14 h15 ⟨h16, rfl, Or.inl (by decide)⟩ ?_
  refine w_iconst (v := 1) cd_196_149 (by decide) ?_
  exact w_ireturn_i cd_196_150 (by decide +kernel) h17
theorem b_196_151 {d : Nat} {Q : (Option Value ⊕ Nat) → mi_H → Prop} (n sl : Nat) (f : Nat → mi_C) {l1 : Nat} {l2 : Nat} {l3 : Int32} {l4 : Int32} {l5 : Int64} {l6 : Int32} {o7 : Option Value} {fs8 : List Value} (h9 : f l1 = .inr (12, fs8)) (h10 : l1 < n) (h11 : mi_W d 195 0 (mi_en 6 [.ref l1, .ref l2]) [] (n, sl, f) (mi_Kc d 196 153 [some (.ref l1), some (.ref l2), some (.int l3), some (.int l4), some (.long l5), none, some (.int l6), o7] [] Q)) : mi_W (d + 1) 196 151 [some (.ref l1), some (.ref l2), some (.int l3), some (.int l4), some (.long l5), none, some (.int l6), o7] [] (n, sl, f) Q := by
  refine w_aload_n cd_196_151 rfl ?_
  refine w_aload_n cd_196_152 rfl ?_
  exact w_invokevirtual cd_196_153 (show mt_m 12 571 = some (195, 0) by decide +kernel) (rest := []) rfl (as := [.ref l1, .ref l2]) rfl h9 (Or.inl h10) ⟨Nat.le_of_ble_eq_true rfl, Nat.le_of_ble_eq_true rfl, Nat.le_of_ble_eq_true rfl⟩ h11
theorem b_196_156 {d : Nat} {Q : (Option Value ⊕ Nat) → mi_H → Prop} (n sl : Nat) (f : Nat → mi_C) {l1 : Nat} {l2 : Nat} {l3 : Int32} {l4 : Int32} {l5 : Int64} {l6 : Int32} {o7 : Option Value} {s8 : Int32} {fs9 : List Value} {x12 : Int32} {fs14 : List Value} (h10 : f l1 = .inr (12, fs9)) (h11 : l1 < n) (h13 : fs9[74]? = some (.int x12)) (h15 : f l1 = .inr (12, fs14)) (h16 : l1 < n) (h17 : 74 < fs14.length) (h18 : Q (.inl (some (.int s8))) (n, sl, (va_up f l1 (.inr (12, fs14.set 74 (.int (x12 - 1))))))) : mi_W d 196 156 [some (.ref l1), some (.ref l2), some (.int l3), some (.int l4), some (.long l5), none, some (.int l6), o7] [.int s8] (n, sl, f) Q := by
  refine w_istore (ls' := [some (.ref l1), some (.ref l2), some (.int l3), some (.int l4), some (.long l5), none, some (.int l6), some (.int s8)]) cd_196_156 (Nat.le_of_ble_eq_true rfl) rfl ?_
  refine w_aload_n cd_196_158 rfl ?_
  refine w_dup_r cd_196_159 ?_
  refine w_getfield cd_196_160 (show mt_f 12 568 = some (12, 74) by decide +kernel) h10 h11 h13 ?_
  refine w_iconst (v := 1) cd_196_163 (by decide) ?_
  refine w_isub cd_196_164 ?_
  refine w_putfield (w := .int (x12 - 1)) cd_196_165 (show mt_f 12 568 = some (12, 74) by decide +kernel) h15 h16 ⟨h17, rfl, Or.inl (by decide)⟩ ?_
  refine w_iload cd_196_168 rfl ?_
  exact w_ireturn_i cd_196_170 (by decide +kernel) h18
/-! MarloweHostModel.numbers(LMarloweHostModel$State;LMarloweHostModel$State;I)I -/
set_option maxRecDepth 100000 in
theorem mq_197 : mt_q 197 = my_197 := rfl
set_option maxRecDepth 100000 in
theorem ci_197 : mt_inc 0 my_197.cd = true := by decide +kernel
theorem cd_197_0 : mt_cd 197 0 = some (.aload_n 0) := mt_cd_of (q := (0, .aload_n 0, 1)) mq_197 ci_197 (List.mem_of_getElem? (i := 0) rfl)
theorem cd_197_1 : mt_cd 197 1 = some (.getfield 141) := mt_cd_of (q := (1, .getfield 141, 3)) mq_197 ci_197 (List.mem_of_getElem? (i := 1) rfl)
theorem cd_197_4 : mt_cd 197 4 = some (.iload_n 3) := mt_cd_of (q := (4, .iload_n 3, 1)) mq_197 ci_197 (List.mem_of_getElem? (i := 2) rfl)
theorem cd_197_5 : mt_cd 197 5 = some (.iaload) := mt_cd_of (q := (5, .iaload, 1)) mq_197 ci_197 (List.mem_of_getElem? (i := 3) rfl)
theorem cd_197_6 : mt_cd 197 6 = some (.istore 4) := mt_cd_of (q := (6, .istore 4, 2)) mq_197 ci_197 (List.mem_of_getElem? (i := 4) rfl)
theorem cd_197_8 : mt_cd 197 8 = some (.iload 4) := mt_cd_of (q := (8, .iload 4, 2)) mq_197 ci_197 (List.mem_of_getElem? (i := 5) rfl)
theorem cd_197_10 : mt_cd 197 10 = some (.aload_n 0) := mt_cd_of (q := (10, .aload_n 0, 1)) mq_197 ci_197 (List.mem_of_getElem? (i := 6) rfl)
theorem cd_197_11 : mt_cd 197 11 = some (.getfield 141) := mt_cd_of (q := (11, .getfield 141, 3)) mq_197 ci_197 (List.mem_of_getElem? (i := 7) rfl)
theorem cd_197_14 : mt_cd 197 14 = some (.iload_n 3) := mt_cd_of (q := (14, .iload_n 3, 1)) mq_197 ci_197 (List.mem_of_getElem? (i := 8) rfl)
theorem cd_197_15 : mt_cd 197 15 = some (.iaload) := mt_cd_of (q := (15, .iaload, 1)) mq_197 ci_197 (List.mem_of_getElem? (i := 9) rfl)
theorem cd_197_16 : mt_cd 197 16 = some (.aload_n 0) := mt_cd_of (q := (16, .aload_n 0, 1)) mq_197 ci_197 (List.mem_of_getElem? (i := 10) rfl)
theorem cd_197_17 : mt_cd 197 17 = some (.getfield 95) := mt_cd_of (q := (17, .getfield 95, 3)) mq_197 ci_197 (List.mem_of_getElem? (i := 11) rfl)
theorem cd_197_20 : mt_cd 197 20 = some (.iload_n 3) := mt_cd_of (q := (20, .iload_n 3, 1)) mq_197 ci_197 (List.mem_of_getElem? (i := 12) rfl)
theorem cd_197_21 : mt_cd 197 21 = some (.iaload) := mt_cd_of (q := (21, .iaload, 1)) mq_197 ci_197 (List.mem_of_getElem? (i := 13) rfl)
theorem cd_197_22 : mt_cd 197 22 = some (.iadd) := mt_cd_of (q := (22, .iadd, 1)) mq_197 ci_197 (List.mem_of_getElem? (i := 14) rfl)
theorem cd_197_23 : mt_cd 197 23 = some (.if_icmp .ge 82) := mt_cd_of (q := (23, .if_icmp .ge 82, 3)) mq_197 ci_197 (List.mem_of_getElem? (i := 15) rfl)
theorem cd_197_26 : mt_cd 197 26 = some (.aload_n 0) := mt_cd_of (q := (26, .aload_n 0, 1)) mq_197 ci_197 (List.mem_of_getElem? (i := 16) rfl)
theorem cd_197_27 : mt_cd 197 27 = some (.getfield 105) := mt_cd_of (q := (27, .getfield 105, 3)) mq_197 ci_197 (List.mem_of_getElem? (i := 17) rfl)
theorem cd_197_30 : mt_cd 197 30 = some (.iload 4) := mt_cd_of (q := (30, .iload 4, 2)) mq_197 ci_197 (List.mem_of_getElem? (i := 18) rfl)
theorem cd_197_32 : mt_cd 197 32 = some (.laload) := mt_cd_of (q := (32, .laload, 1)) mq_197 ci_197 (List.mem_of_getElem? (i := 19) rfl)
theorem cd_197_33 : mt_cd 197 33 = some (.lstore 5) := mt_cd_of (q := (33, .lstore 5, 2)) mq_197 ci_197 (List.mem_of_getElem? (i := 20) rfl)
theorem cd_197_35 : mt_cd 197 35 = some (.lload 5) := mt_cd_of (q := (35, .lload 5, 2)) mq_197 ci_197 (List.mem_of_getElem? (i := 21) rfl)
theorem cd_197_37 : mt_cd 197 37 = some (.aload_n 0) := mt_cd_of (q := (37, .aload_n 0, 1)) mq_197 ci_197 (List.mem_of_getElem? (i := 22) rfl)
theorem cd_197_38 : mt_cd 197 38 = some (.getfield 108) := mt_cd_of (q := (38, .getfield 108, 3)) mq_197 ci_197 (List.mem_of_getElem? (i := 23) rfl)
theorem cd_197_41 : mt_cd 197 41 = some (.iload 4) := mt_cd_of (q := (41, .iload 4, 2)) mq_197 ci_197 (List.mem_of_getElem? (i := 24) rfl)
theorem cd_197_43 : mt_cd 197 43 = some (.laload) := mt_cd_of (q := (43, .laload, 1)) mq_197 ci_197 (List.mem_of_getElem? (i := 25) rfl)
theorem cd_197_44 : mt_cd 197 44 = some (.lcmp) := mt_cd_of (q := (44, .lcmp, 1)) mq_197 ci_197 (List.mem_of_getElem? (i := 26) rfl)
theorem cd_197_45 : mt_cd 197 45 = some (.ifCond .gt 54) := mt_cd_of (q := (45, .ifCond .gt 54, 3)) mq_197 ci_197 (List.mem_of_getElem? (i := 27) rfl)
theorem cd_197_48 : mt_cd 197 48 = some (.aload_n 0) := mt_cd_of (q := (48, .aload_n 0, 1)) mq_197 ci_197 (List.mem_of_getElem? (i := 28) rfl)
theorem cd_197_49 : mt_cd 197 49 = some (.iconst 0) := mt_cd_of (q := (49, .iconst 0, 1)) mq_197 ci_197 (List.mem_of_getElem? (i := 29) rfl)
theorem cd_197_50 : mt_cd 197 50 = some (.putfield 258) := mt_cd_of (q := (50, .putfield 258, 3)) mq_197 ci_197 (List.mem_of_getElem? (i := 30) rfl)
theorem cd_197_53 : mt_cd 197 53 = some (.aload_n 0) := mt_cd_of (q := (53, .aload_n 0, 1)) mq_197 ci_197 (List.mem_of_getElem? (i := 31) rfl)
theorem cd_197_54 : mt_cd 197 54 = some (.bipush 8) := mt_cd_of (q := (54, .bipush 8, 2)) mq_197 ci_197 (List.mem_of_getElem? (i := 32) rfl)
theorem cd_197_56 : mt_cd 197 56 = some (.aload_n 0) := mt_cd_of (q := (56, .aload_n 0, 1)) mq_197 ci_197 (List.mem_of_getElem? (i := 33) rfl)
theorem cd_197_57 : mt_cd 197 57 = some (.getfield 80) := mt_cd_of (q := (57, .getfield 80, 3)) mq_197 ci_197 (List.mem_of_getElem? (i := 34) rfl)
theorem cd_197_60 : mt_cd 197 60 = some (.iload_n 3) := mt_cd_of (q := (60, .iload_n 3, 1)) mq_197 ci_197 (List.mem_of_getElem? (i := 35) rfl)
theorem cd_197_61 : mt_cd 197 61 = some (.iaload) := mt_cd_of (q := (61, .iaload, 1)) mq_197 ci_197 (List.mem_of_getElem? (i := 36) rfl)
theorem cd_197_62 : mt_cd 197 62 = some (.iconst 0) := mt_cd_of (q := (62, .iconst 0, 1)) mq_197 ci_197 (List.mem_of_getElem? (i := 37) rfl)
theorem cd_197_63 : mt_cd 197 63 = some (.iconst 0) := mt_cd_of (q := (63, .iconst 0, 1)) mq_197 ci_197 (List.mem_of_getElem? (i := 38) rfl)
theorem cd_197_64 : mt_cd 197 64 = some (.lload 5) := mt_cd_of (q := (64, .lload 5, 2)) mq_197 ci_197 (List.mem_of_getElem? (i := 39) rfl)
theorem cd_197_66 : mt_cd 197 66 = some (.invokevirtual 548) := mt_cd_of (q := (66, .invokevirtual 548, 3)) mq_197 ci_197 (List.mem_of_getElem? (i := 40) rfl)
theorem cd_197_69 : mt_cd 197 69 = some (.pop) := mt_cd_of (q := (69, .pop, 1)) mq_197 ci_197 (List.mem_of_getElem? (i := 41) rfl)
theorem cd_197_70 : mt_cd 197 70 = some (.aload_n 0) := mt_cd_of (q := (70, .aload_n 0, 1)) mq_197 ci_197 (List.mem_of_getElem? (i := 42) rfl)
theorem cd_197_71 : mt_cd 197 71 = some (.aload_n 1) := mt_cd_of (q := (71, .aload_n 1, 1)) mq_197 ci_197 (List.mem_of_getElem? (i := 43) rfl)
theorem cd_197_72 : mt_cd 197 72 = some (.aload_n 2) := mt_cd_of (q := (72, .aload_n 2, 1)) mq_197 ci_197 (List.mem_of_getElem? (i := 44) rfl)
theorem cd_197_73 : mt_cd 197 73 = some (.iconst 2) := mt_cd_of (q := (73, .iconst 2, 1)) mq_197 ci_197 (List.mem_of_getElem? (i := 45) rfl)
theorem cd_197_74 : mt_cd 197 74 = some (.lload 5) := mt_cd_of (q := (74, .lload 5, 2)) mq_197 ci_197 (List.mem_of_getElem? (i := 46) rfl)
theorem cd_197_76 : mt_cd 197 76 = some (.iload_n 3) := mt_cd_of (q := (76, .iload_n 3, 1)) mq_197 ci_197 (List.mem_of_getElem? (i := 47) rfl)
theorem cd_197_77 : mt_cd 197 77 = some (.invokevirtual 586) := mt_cd_of (q := (77, .invokevirtual 586, 3)) mq_197 ci_197 (List.mem_of_getElem? (i := 48) rfl)
theorem cd_197_80 : mt_cd 197 80 = some (.istore 7) := mt_cd_of (q := (80, .istore 7, 2)) mq_197 ci_197 (List.mem_of_getElem? (i := 49) rfl)
theorem cd_197_82 : mt_cd 197 82 = some (.iload 7) := mt_cd_of (q := (82, .iload 7, 2)) mq_197 ci_197 (List.mem_of_getElem? (i := 50) rfl)
theorem cd_197_84 : mt_cd 197 84 = some (.ifCond .eq 6) := mt_cd_of (q := (84, .ifCond .eq 6, 3)) mq_197 ci_197 (List.mem_of_getElem? (i := 51) rfl)
theorem cd_197_87 : mt_cd 197 87 = some (.iload 7) := mt_cd_of (q := (87, .iload 7, 2)) mq_197 ci_197 (List.mem_of_getElem? (i := 52) rfl)
theorem cd_197_89 : mt_cd 197 89 = some (.ireturn) := mt_cd_of (q := (89, .ireturn, 1)) mq_197 ci_197 (List.mem_of_getElem? (i := 53) rfl)
theorem cd_197_90 : mt_cd 197 90 = some (.lload 5) := mt_cd_of (q := (90, .lload 5, 2)) mq_197 ci_197 (List.mem_of_getElem? (i := 54) rfl)
theorem cd_197_92 : mt_cd 197 92 = some (.lconst 1) := mt_cd_of (q := (92, .lconst 1, 1)) mq_197 ci_197 (List.mem_of_getElem? (i := 55) rfl)
theorem cd_197_93 : mt_cd 197 93 = some (.ladd) := mt_cd_of (q := (93, .ladd, 1)) mq_197 ci_197 (List.mem_of_getElem? (i := 56) rfl)
theorem cd_197_94 : mt_cd 197 94 = some (.lstore 5) := mt_cd_of (q := (94, .lstore 5, 2)) mq_197 ci_197 (List.mem_of_getElem? (i := 57) rfl)
theorem cd_197_96 : mt_cd 197 96 = some (.goto (-61)) := mt_cd_of (q := (96, .goto (-61), 3)) mq_197 ci_197 (List.mem_of_getElem? (i := 58) rfl)
theorem cd_197_99 : mt_cd 197 99 = some (.iinc 4 1) := mt_cd_of (q := (99, .iinc 4 1, 3)) mq_197 ci_197 (List.mem_of_getElem? (i := 59) rfl)
theorem cd_197_102 : mt_cd 197 102 = some (.goto (-94)) := mt_cd_of (q := (102, .goto (-94), 3)) mq_197 ci_197 (List.mem_of_getElem? (i := 60) rfl)
theorem cd_197_105 : mt_cd 197 105 = some (.iconst 0) := mt_cd_of (q := (105, .iconst 0, 1)) mq_197 ci_197 (List.mem_of_getElem? (i := 61) rfl)
theorem cd_197_106 : mt_cd 197 106 = some (.ireturn) := mt_cd_of (q := (106, .ireturn, 1)) mq_197 ci_197 (List.mem_of_getElem? (i := 62) rfl)
theorem b_197_0 {d : Nat} {Q : (Option Value ⊕ Nat) → mi_H → Prop} (n sl : Nat) (f : Nat → mi_C) {l1 : Nat} {l2 : Nat} {l3 : Nat} {l4 : Int32} {o5 : Option Value} {o6 : Option Value} {o7 : Option Value} {o8 : Option Value} {fs9 : List Value} {x12 : Nat} (m14 i14 : Nat) (g14 : Nat → Int32) (h10 : f l1 = .inr (12, fs9)) (h11 : l1 < n) (h13 : fs9[40]? = some (.ref x12)) (h15 : f x12 = .inl (0, m14, .inl g14)) (h16 : x12 < n ∨ x12 = mi_SC) (h17 : mi_ix l4 m14 i14) (h18 : mi_W d 197 8 [some (.ref l1), some (.ref l2), some (.ref l3), some (.int l4), some (.int (g14 i14)), o6, o7, o8] [] (n, sl, f) Q) : mi_W d 197 0 [some (.ref l1), some (.ref l2), some (.ref l3), some (.int l4), o5, o6, o7, o8] [] (n, sl, f) Q := by
  refine w_aload_n cd_197_0 rfl ?_
  refine w_getfield cd_197_1 (show mt_f 12 141 = some (12, 40) by decide +kernel) h10 h11 h13 ?_
  refine w_iload_n cd_197_4 rfl ?_
  refine w_iaload cd_197_5 h15 h16 h17 ?_
  refine w_istore (ls' := [some (.ref l1), some (.ref l2), some (.ref l3), some (.int l4), some (.int (g14 i14)), o6, o7, o8]) cd_197_6 (Nat.le_of_ble_eq_true rfl) rfl ?_
  exact h18
theorem b_197_8 {d : Nat} {Q : (Option Value ⊕ Nat) → mi_H → Prop} (n sl : Nat) (f : Nat → mi_C) {l1 : Nat} {l2 : Nat} {l3 : Nat} {l4 : Int32} {l5 : Int32} {o6 : Option Value} {o7 : Option Value} {o8 : Option Value} {fs9 : List Value} {x12 : Nat} (m14 i14 : Nat) (g14 : Nat → Int32) {fs18 : List Value} {x21 : Nat} (m23 i23 : Nat) (g23 : Nat → Int32) (h10 : f l1 = .inr (12, fs9)) (h11 : l1 < n) (h13 : fs9[40]? = some (.ref x12)) (h15 : f x12 = .inl (0, m14, .inl g14)) (h16 : x12 < n ∨ x12 = mi_SC) (h17 : mi_ix l4 m14 i14) (h19 : f l1 = .inr (12, fs18)) (h20 : l1 < n) (h22 : fs18[18]? = some (.ref x21)) (h24 : f x21 = .inl (0, m23, .inl g23)) (h25 : x21 < n ∨ x21 = mi_SC) (h26 : mi_ix l4 m23 i23) (h27 : ((g14 i14) + (g23 i23)) ≤ l5 → mi_W d 197 105 [some (.ref l1), some (.ref l2), some (.ref l3), some (.int l4), some (.int l5), o6, o7, o8] [] (n, sl, f) Q) (h28 : ¬ (((g14 i14) + (g23 i23)) ≤ l5) → mi_W d 197 26 [some (.ref l1), some (.ref l2), some (.ref l3), some (.int l4), some (.int l5), o6, o7, o8] [] (n, sl, f) Q) : mi_W d 197 8 [some (.ref l1), some (.ref l2), some (.ref l3), some (.int l4), some (.int l5), o6, o7, o8] [] (n, sl, f) Q := by
  refine w_iload cd_197_8 rfl ?_
  refine w_aload_n cd_197_10 rfl ?_
  refine w_getfield cd_197_11 (show mt_f 12 141 = some (12, 40) by decide +kernel) h10 h11 h13 ?_
  refine w_iload_n cd_197_14 rfl ?_
  refine w_iaload cd_197_15 h15 h16 h17 ?_
  refine w_aload_n cd_197_16 rfl ?_
  refine w_getfield cd_197_17 (show mt_f 12 95 = some (12, 18) by decide +kernel) h19 h20 h22 ?_
  refine w_iload_n cd_197_20 rfl ?_
  refine w_iaload cd_197_21 h24 h25 h26 ?_
  refine w_iadd cd_197_22 ?_
  exact w_if_icmpge cd_197_23 (by decide) h27 h28
theorem b_197_26 {d : Nat} {Q : (Option Value ⊕ Nat) → mi_H → Prop} (n sl : Nat) (f : Nat → mi_C) {l1 : Nat} {l2 : Nat} {l3 : Nat} {l4 : Int32} {l5 : Int32} {o6 : Option Value} {o7 : Option Value} {o8 : Option Value} {fs9 : List Value} {x12 : Nat} (m14 i14 : Nat) (g14 : Nat → Int64) (h10 : f l1 = .inr (12, fs9)) (h11 : l1 < n) (h13 : fs9[28]? = some (.ref x12)) (h15 : f x12 = .inl (3, m14, .inr (.inl g14))) (h16 : x12 < n) (h17 : mi_ix l5 m14 i14) (h18 : mi_W d 197 35 [some (.ref l1), some (.ref l2), some (.ref l3), some (.int l4), some (.int l5), some (.long (g14 i14)), none, o8] [] (n, sl, f) Q) : mi_W d 197 26 [some (.ref l1), some (.ref l2), some (.ref l3), some (.int l4), some (.int l5), o6, o7, o8] [] (n, sl, f) Q := by
  refine w_aload_n cd_197_26 rfl ?_
  refine w_getfield cd_197_27 (show mt_f 12 105 = some (12, 28) by decide +kernel) h10 h11 h13 ?_
  refine w_iload cd_197_30 rfl ?_
  refine w_laload cd_197_32 h15 h16 h17 ?_
  refine w_lstore (ls' := [some (.ref l1), some (.ref l2), some (.ref l3), some (.int l4), some (.int l5), some (.long (g14 i14)), none, o8]) cd_197_33 (Nat.le_of_ble_eq_true rfl) rfl ?_
  exact h18
theorem b_197_35 {d : Nat} {Q : (Option Value ⊕ Nat) → mi_H → Prop} (n sl : Nat) (f : Nat → mi_C) {l1 : Nat} {l2 : Nat} {l3 : Nat} {l4 : Int32} {l5 : Int32} {l6 : Int64} {o7 : Option Value} {fs8 : List Value} {x11 : Nat} (m13 i13 : Nat) (g13 : Nat → Int64) (h9 : f l1 = .inr (12, fs8)) (h10 : l1 < n) (h12 : fs8[29]? = some (.ref x11)) (h14 : f x11 = .inl (3, m13, .inr (.inl g13))) (h15 : x11 < n) (h16 : mi_ix l5 m13 i13) (h17 : (0 : Int32) < (lg_cmp l6 (g13 i13)) → mi_W d 197 99 [some (.ref l1), some (.ref l2), some (.ref l3), some (.int l4), some (.int l5), some (.long l6), none, o7] [] (n, sl, f) Q) (h18 : ¬ ((0 : Int32) < (lg_cmp l6 (g13 i13))) → mi_W d 197 48 [some (.ref l1), some (.ref l2), some (.ref l3), some (.int l4), some (.int l5), some (.long l6), none, o7] [] (n, sl, f) Q) : mi_W d 197 35 [some (.ref l1), some (.ref l2), some (.ref l3), some (.int l4), some (.int l5), some (.long l6), none, o7] [] (n, sl, f) Q := by
  refine w_lload cd_197_35 rfl ?_
  refine w_aload_n cd_197_37 rfl ?_
  refine w_getfield cd_197_38 (show mt_f 12 108 = some (12, 29) by decide +kernel) h9 h10 h12 ?_
  refine w_iload cd_197_41 rfl ?_
  refine w_laload cd_197_43 h14 h15 h16 ?_
  refine w_lcmp cd_197_44 ?_
  exact w_ifgt cd_197_45 (by decide) h17 h18
theorem b_197_48 {d : Nat} {Q : (Option Value ⊕ Nat) → mi_H → Prop} (n sl : Nat) (f : Nat → mi_C) {l1 : Nat} {l2 : Nat} {l3 : Nat} {l4 : Int32} {l5 : Int32} {l6 : Int64} {o7 : Option Value} {fs8 : List Value} {fs12 : List Value} {x15 : Nat} (m17 i17 : Nat) (g17 : Nat → Int32) {fs21 : List Value} (h9 : f l1 = .inr (12, fs8)) (h10 : l1 < n) (h11 : 59 < fs8.length) (h13 : (va_up f l1 (.inr (12, fs8.set 59 (.int 0)))) l1 = .inr (12, fs12)) (h14 : l1 < n) (h16 : fs12[13]? = some (.ref x15)) (h18 : (va_up f l1 (.inr (12, fs8.set 59 (.int 0)))) x15 = .inl (0, m17, .inl g17)) (h19 : x15 < n ∨ x15 = mi_SC) (h20 : mi_ix l4 m17 i17) (h22 : (va_up f l1 (.inr (12, fs8.set 59 (.int 0)))) l1 = .inr (12, fs21)) (h23 : l1 < n) (h24 : mi_W d 186 0 (mi_en 7 [.ref l1, .int 8, .int (g17 i17), .int 0, .int 0, .long l6]) [] (n, sl, (va_up f l1 (.inr (12, fs8.set 59 (.int 0))))) (mi_Kc d 197 66 [some (.ref l1), some (.ref l2), some (.ref l3), some (.int l4), some (.int l5), some (.long l6), none, o7] [] Q)) : mi_W (d + 1) 197 48 [some (.ref l1), some (.ref l2), some (.ref l3), some (.int l4), some (.int l5), some (.long l6), none, o7] [] (n, sl, f) Q := by
  refine w_aload_n cd_197_48 rfl ?_
  refine w_iconst (v := 0) cd_197_49 (by decide) ?_
  refine w_putfield (w := .int 0) cd_197_50 (show mt_f 12 258 = some (12, 59) by decide +kernel) h9 h10 ⟨h11, rfl, Or.inl (by decide)⟩ ?_
  refine w_aload_n cd_197_53 rfl ?_
  refine w_bipush (v := 8) cd_197_54 (by decide) ?_
  refine w_aload_n cd_197_56 rfl ?_
  refine w_getfield cd_197_57 (show mt_f 12 80 = some (12, 13) by decide +kernel) h13 h14 h16 ?_
  refine w_iload_n cd_197_60 rfl ?_
  refine w_iaload cd_197_61 h18 h19 h20 ?_
  refine w_iconst (v := 0) cd_197_62 (by decide) ?_
  refine w_iconst (v := 0) cd_197_63 (by decide) ?_
  refine w_lload cd_197_64 rfl ?_
  exact w_invokevirtual cd_197_66 (show mt_m 12 548 = some (186, 0) by decide +kernel) (rest := []) rfl (as := [.ref l1, .int 8, .int (g17 i17), .int 0, .int 0, .long l6]) rfl h22 (Or.inl h23) ⟨Nat.le_of_ble_eq_true rfl, Nat.le_of_ble_eq_true rfl, Nat.le_of_ble_eq_true rfl⟩ h24
theorem b_197_69 {d : Nat} {Q : (Option Value ⊕ Nat) → mi_H → Prop} (n sl : Nat) (f : Nat → mi_C) {l1 : Nat} {l2 : Nat} {l3 : Nat} {l4 : Int32} {l5 : Int32} {l6 : Int64} {o7 : Option Value} {s8 : Int32} {fs9 : List Value} (h10 : f l1 = .inr (12, fs9)) (h11 : l1 < n) (h12 : mi_W d 198 0 (mi_en 8 [.ref l1, .ref l2, .ref l3, .int 2, .long l6, .int l4]) [] (n, sl, f) (mi_Kc d 197 77 [some (.ref l1), some (.ref l2), some (.ref l3), some (.int l4), some (.int l5), some (.long l6), none, o7] [] Q)) : mi_W (d + 1) 197 69 [some (.ref l1), some (.ref l2), some (.ref l3), some (.int l4), some (.int l5), some (.long l6), none, o7] [.int s8] (n, sl, f) Q := by
  refine w_pop_i cd_197_69 ?_
  refine w_aload_n cd_197_70 rfl ?_
  refine w_aload_n cd_197_71 rfl ?_
  refine w_aload_n cd_197_72 rfl ?_
  refine w_iconst (v := 2) cd_197_73 (by decide) ?_
  refine w_lload cd_197_74 rfl ?_
  refine w_iload_n cd_197_76 rfl ?_
  exact w_invokevirtual cd_197_77 (show mt_m 12 586 = some (198, 0) by decide +kernel) (rest := []) rfl (as := [.ref l1, .ref l2, .ref l3, .int 2, .long l6, .int l4]) rfl h10 (Or.inl h11) ⟨Nat.le_of_ble_eq_true rfl, Nat.le_of_ble_eq_true rfl, Nat.le_of_ble_eq_true rfl⟩ h12
theorem b_197_80 {d : Nat} {Q : (Option Value ⊕ Nat) → mi_H → Prop} (n sl : Nat) (f : Nat → mi_C) {l1 : Nat} {l2 : Nat} {l3 : Nat} {l4 : Int32} {l5 : Int32} {l6 : Int64} {o7 : Option Value} {s8 : Int32} (h9 : s8 = (0 : Int32) → mi_W d 197 90 [some (.ref l1), some (.ref l2), some (.ref l3), some (.int l4), some (.int l5), some (.long l6), none, some (.int s8)] [] (n, sl, f) Q) (h10 : ¬ (s8 = (0 : Int32)) → mi_W d 197 87 [some (.ref l1), some (.ref l2), some (.ref l3), some (.int l4), some (.int l5), some (.long l6), none, some (.int s8)] [] (n, sl, f) Q) : mi_W d 197 80 [some (.ref l1), some (.ref l2), some (.ref l3), some (.int l4), some (.int l5), some (.long l6), none, o7] [.int s8] (n, sl, f) Q := by
  refine w_istore (ls' := [some (.ref l1), some (.ref l2), some (.ref l3), some (.int l4), some (.int l5), some (.long l6), none, some (.int s8)]) cd_197_80 (Nat.le_of_ble_eq_true rfl) rfl ?_
  refine w_iload cd_197_82 rfl ?_
  exact w_ifeq cd_197_84 (by decide) h9 h10
theorem b_197_87 {d : Nat} {Q : (Option Value ⊕ Nat) → mi_H → Prop} (n sl : Nat) (f : Nat → mi_C) {l1 : Nat} {l2 : Nat} {l3 : Nat} {l4 : Int32} {l5 : Int32} {l6 : Int64} {l7 : Int32} (h8 : Q (.inl (some (.int l7))) (n, sl, f)) : mi_W d 197 87 [some (.ref l1), some (.ref l2), some (.ref l3), some (.int l4), some (.int l5), some (.long l6), none, some (.int l7)] [] (n, sl, f) Q := by
  refine w_iload cd_197_87 rfl ?_
  exact w_ireturn_i cd_197_89 (by decide +kernel) h8
theorem b_197_90 {d : Nat} {Q : (Option Value ⊕ Nat) → mi_H → Prop} (n sl : Nat) (f : Nat → mi_C) {l1 : Nat} {l2 : Nat} {l3 : Nat} {l4 : Int32} {l5 : Int32} {l6 : Int64} {l7 : Int32} (h8 : mi_W d 197 35 [some (.ref l1), some (.ref l2), some (.ref l3), some (.int l4), some (.int l5), some (.long (l6 + 1)), none, some (.int l7)] [] (n, sl, f) Q) : mi_W d 197 90 [some (.ref l1), some (.ref l2), some (.ref l3), some (.int l4), some (.int l5), some (.long l6), none, some (.int l7)] [] (n, sl, f) Q := by
  refine w_lload cd_197_90 rfl ?_
  refine w_lconst (lv := 1) cd_197_92 (by decide) ?_
  refine w_ladd cd_197_93 ?_
  refine w_lstore (ls' := [some (.ref l1), some (.ref l2), some (.ref l3), some (.int l4), some (.int l5), some (.long (l6 + 1)), none, some (.int l7)]) cd_197_94 (Nat.le_of_ble_eq_true rfl) rfl ?_
  exact w_goto cd_197_96 (by decide) h8
theorem b_197_99 {d : Nat} {Q : (Option Value ⊕ Nat) → mi_H → Prop} (n sl : Nat) (f : Nat → mi_C) {l1 : Nat} {l2 : Nat} {l3 : Nat} {l4 : Int32} {l5 : Int32} {l6 : Int64} {o7 : Option Value} (h8 : mi_W d 197 8 [some (.ref l1), some (.ref l2), some (.ref l3), some (.int l4), some (.int (l5 + 1)), some (.long l6), none, o7] [] (n, sl, f) Q) : mi_W d 197 99 [some (.ref l1), some (.ref l2), some (.ref l3), some (.int l4), some (.int l5), some (.long l6), none, o7] [] (n, sl, f) Q := by
  refine w_iinc (v := 1) (ls' := [some (.ref l1), some (.ref l2), some (.ref l3), some (.int l4), some (.int (l5 + 1)), some (.long l6), none, o7]) cd_197_99 rfl (by decide) rfl ?_
  exact w_goto cd_197_102 (by decide) h8
theorem b_197_105 {d : Nat} {Q : (Option Value ⊕ Nat) → mi_H → Prop} (n sl : Nat) (f : Nat → mi_C) {l1 : Nat} {l2 : Nat} {l3 : Nat} {l4 : Int32} {l5 : Int32} {o6 : Option Value} {o7 : Option Value} {o8 : Option Value} (h9 : Q (.inl (some (.int 0))) (n, sl, f)) : mi_W d 197 105 [some (.ref l1), some (.ref l2), some (.ref l3), some (.int l4), some (.int l5), o6, o7, o8] [] (n, sl, f) Q := by
  refine w_iconst (v := 0) cd_197_105 (by decide) ?_
  exact w_ireturn_i cd_197_106 (by decide +kernel) h9
/-! MarloweHostModel.tried(LMarloweHostModel$State;LMarloweHostModel$State;IJI)I -/
set_option maxRecDepth 100000 in
theorem mq_198 : mt_q 198 = my_198 := rfl
set_option maxRecDepth 100000 in
theorem ci_198 : mt_inc 0 my_198.cd = true := by decide +kernel
theorem cd_198_0 : mt_cd 198 0 = some (.aload_n 0) := mt_cd_of (q := (0, .aload_n 0, 1)) mq_198 ci_198 (List.mem_of_getElem? (i := 0) rfl)
theorem cd_198_1 : mt_cd 198 1 = some (.aload_n 2) := mt_cd_of (q := (1, .aload_n 2, 1)) mq_198 ci_198 (List.mem_of_getElem? (i := 1) rfl)
theorem cd_198_2 : mt_cd 198 2 = some (.putfield 445) := mt_cd_of (q := (2, .putfield 445, 3)) mq_198 ci_198 (List.mem_of_getElem? (i := 2) rfl)
theorem cd_198_5 : mt_cd 198 5 = some (.aload_n 2) := mt_cd_of (q := (5, .aload_n 2, 1)) mq_198 ci_198 (List.mem_of_getElem? (i := 3) rfl)
theorem cd_198_6 : mt_cd 198 6 = some (.aload_n 1) := mt_cd_of (q := (6, .aload_n 1, 1)) mq_198 ci_198 (List.mem_of_getElem? (i := 4) rfl)
theorem cd_198_7 : mt_cd 198 7 = some (.invokevirtual 525) := mt_cd_of (q := (7, .invokevirtual 525, 3)) mq_198 ci_198 (List.mem_of_getElem? (i := 5) rfl)
theorem cd_198_10 : mt_cd 198 10 = some (.aload_n 0) := mt_cd_of (q := (10, .aload_n 0, 1)) mq_198 ci_198 (List.mem_of_getElem? (i := 6) rfl)
theorem cd_198_11 : mt_cd 198 11 = some (.aload_n 1) := mt_cd_of (q := (11, .aload_n 1, 1)) mq_198 ci_198 (List.mem_of_getElem? (i := 7) rfl)
theorem cd_198_12 : mt_cd 198 12 = some (.getfield 516) := mt_cd_of (q := (12, .getfield 516, 3)) mq_198 ci_198 (List.mem_of_getElem? (i := 8) rfl)
theorem cd_198_15 : mt_cd 198 15 = some (.aload_n 1) := mt_cd_of (q := (15, .aload_n 1, 1)) mq_198 ci_198 (List.mem_of_getElem? (i := 9) rfl)
theorem cd_198_16 : mt_cd 198 16 = some (.getfield 516) := mt_cd_of (q := (16, .getfield 516, 3)) mq_198 ci_198 (List.mem_of_getElem? (i := 10) rfl)
theorem cd_198_19 : mt_cd 198 19 = some (.iconst 1) := mt_cd_of (q := (19, .iconst 1, 1)) mq_198 ci_198 (List.mem_of_getElem? (i := 11) rfl)
theorem cd_198_20 : mt_cd 198 20 = some (.invokevirtual 529) := mt_cd_of (q := (20, .invokevirtual 529, 3)) mq_198 ci_198 (List.mem_of_getElem? (i := 12) rfl)
theorem cd_198_23 : mt_cd 198 23 = some (.istore 7) := mt_cd_of (q := (23, .istore 7, 2)) mq_198 ci_198 (List.mem_of_getElem? (i := 13) rfl)
theorem cd_198_25 : mt_cd 198 25 = some (.aload_n 0) := mt_cd_of (q := (25, .aload_n 0, 1)) mq_198 ci_198 (List.mem_of_getElem? (i := 14) rfl)
theorem cd_198_26 : mt_cd 198 26 = some (.aload_n 2) := mt_cd_of (q := (26, .aload_n 2, 1)) mq_198 ci_198 (List.mem_of_getElem? (i := 15) rfl)
theorem cd_198_27 : mt_cd 198 27 = some (.iload 7) := mt_cd_of (q := (27, .iload 7, 2)) mq_198 ci_198 (List.mem_of_getElem? (i := 16) rfl)
theorem cd_198_29 : mt_cd 198 29 = some (.iload_n 3) := mt_cd_of (q := (29, .iload_n 3, 1)) mq_198 ci_198 (List.mem_of_getElem? (i := 17) rfl)
theorem cd_198_30 : mt_cd 198 30 = some (.lload 4) := mt_cd_of (q := (30, .lload 4, 2)) mq_198 ci_198 (List.mem_of_getElem? (i := 18) rfl)
theorem cd_198_32 : mt_cd 198 32 = some (.iload 6) := mt_cd_of (q := (32, .iload 6, 2)) mq_198 ci_198 (List.mem_of_getElem? (i := 19) rfl)
theorem cd_198_34 : mt_cd 198 34 = some (.invokevirtual 575) := mt_cd_of (q := (34, .invokevirtual 575, 3)) mq_198 ci_198 (List.mem_of_getElem? (i := 20) rfl)
theorem cd_198_37 : mt_cd 198 37 = some (.ireturn) := mt_cd_of (q := (37, .ireturn, 1)) mq_198 ci_198 (List.mem_of_getElem? (i := 21) rfl)
theorem b_198_0 {d : Nat} {Q : (Option Value ⊕ Nat) → mi_H → Prop} (n sl : Nat) (f : Nat → mi_C) {l1 : Nat} {l2 : Nat} {l3 : Nat} {l4 : Int32} {l5 : Int64} {l6 : Int32} {o7 : Option Value} {fs8 : List Value} {fs12 : List Value} (h9 : f l1 = .inr (12, fs8)) (h10 : l1 < n) (h11 : 43 < fs8.length) (h13 : (va_up f l1 (.inr (12, fs8.set 43 (.ref l3)))) l3 = .inr (13, fs12)) (h14 : l3 < n) (h15 : mi_W d 171 0 (mi_en 3 [.ref l3, .ref l2]) [] (n, sl, (va_up f l1 (.inr (12, fs8.set 43 (.ref l3))))) (mi_Kc d 198 7 [some (.ref l1), some (.ref l2), some (.ref l3), some (.int l4), some (.long l5), none, some (.int l6), o7] [] Q)) : mi_W (d + 1) 198 0 [some (.ref l1), some (.ref l2), some (.ref l3), some (.int l4), some (.long l5), none, some (.int l6), o7] [] (n, sl, f) Q := by
  refine w_aload_n cd_198_0 rfl ?_
  refine w_aload_n cd_198_1 rfl ?_
  refine w_putfield (w := .ref l3) cd_198_2 (show mt_f 12 445 = some (12, 43) by decide +kernel) h9 h10 ⟨h11, rfl, Or.inl (by decide)⟩ ?_
  refine w_aload_n cd_198_5 rfl ?_
  refine w_aload_n cd_198_6 rfl ?_
  exact w_invokevirtual cd_198_7 (show mt_m 12 525 = some (171, 0) by decide +kernel) (rest := []) rfl (as := [.ref l3, .ref l2]) rfl h13 (Or.inl h14) ⟨Nat.le_of_ble_eq_true rfl, Nat.le_of_ble_eq_true rfl, Nat.le_of_ble_eq_true rfl⟩ h15
theorem b_198_10 {d : Nat} {Q : (Option Value ⊕ Nat) → mi_H → Prop} (n sl : Nat) (f : Nat → mi_C) {l1 : Nat} {l2 : Nat} {l3 : Nat} {l4 : Int32} {l5 : Int64} {l6 : Int32} {o7 : Option Value} {fs8 : List Value} {x11 : Int64} {fs13 : List Value} {x16 : Int64} {fs18 : List Value} (h9 : f l2 = .inr (13, fs8)) (h10 : l2 < n) (h12 : fs8[1]? = some (.long x11)) (h14 : f l2 = .inr (13, fs13)) (h15 : l2 < n) (h17 : fs13[1]? = some (.long x16)) (h19 : f l1 = .inr (12, fs18)) (h20 : l1 < n) (h21 : mi_W d 172 0 (mi_en 8 [.ref l1, .long x11, .long x16, .int 1]) [] (n, sl, f) (mi_Kc d 198 20 [some (.ref l1), some (.ref l2), some (.ref l3), some (.int l4), some (.long l5), none, some (.int l6), o7] [] Q)) : mi_W (d + 1) 198 10 [some (.ref l1), some (.ref l2), some (.ref l3), some (.int l4), some (.long l5), none, some (.int l6), o7] [] (n, sl, f) Q := by
  refine w_aload_n cd_198_10 rfl ?_
  refine w_aload_n cd_198_11 rfl ?_
  refine w_getfield cd_198_12 (show mt_f 12 516 = some (13, 1) by decide +kernel) h9 h10 h12 ?_
  refine w_aload_n cd_198_15 rfl ?_
  refine w_getfield cd_198_16 (show mt_f 12 516 = some (13, 1) by decide +kernel) h14 h15 h17 ?_
  refine w_iconst (v := 1) cd_198_19 (by decide) ?_
  exact w_invokevirtual cd_198_20 (show mt_m 12 529 = some (172, 0) by decide +kernel) (rest := []) rfl (as := [.ref l1, .long x11, .long x16, .int 1]) rfl h19 (Or.inl h20) ⟨Nat.le_of_ble_eq_true rfl, Nat.le_of_ble_eq_true rfl, Nat.le_of_ble_eq_true rfl⟩ h21
theorem b_198_23 {d : Nat} {Q : (Option Value ⊕ Nat) → mi_H → Prop} (n sl : Nat) (f : Nat → mi_C) {l1 : Nat} {l2 : Nat} {l3 : Nat} {l4 : Int32} {l5 : Int64} {l6 : Int32} {o7 : Option Value} {s8 : Int32} {fs9 : List Value} (h10 : f l1 = .inr (12, fs9)) (h11 : l1 < n) (h12 : mi_W d 196 0 (mi_en 8 [.ref l1, .ref l3, .int s8, .int l4, .long l5, .int l6]) [] (n, sl, f) (mi_Kc d 198 34 [some (.ref l1), some (.ref l2), some (.ref l3), some (.int l4), some (.long l5), none, some (.int l6), some (.int s8)] [] Q)) : mi_W (d + 1) 198 23 [some (.ref l1), some (.ref l2), some (.ref l3), some (.int l4), some (.long l5), none, some (.int l6), o7] [.int s8] (n, sl, f) Q := by
  refine w_istore (ls' := [some (.ref l1), some (.ref l2), some (.ref l3), some (.int l4), some (.long l5), none, some (.int l6), some (.int s8)]) cd_198_23 (Nat.le_of_ble_eq_true rfl) rfl ?_
  refine w_aload_n cd_198_25 rfl ?_
  refine w_aload_n cd_198_26 rfl ?_
  refine w_iload cd_198_27 rfl ?_
  refine w_iload_n cd_198_29 rfl ?_
  refine w_lload cd_198_30 rfl ?_
  refine w_iload cd_198_32 rfl ?_
  exact w_invokevirtual cd_198_34 (show mt_m 12 575 = some (196, 0) by decide +kernel) (rest := []) rfl (as := [.ref l1, .ref l3, .int s8, .int l4, .long l5, .int l6]) rfl h10 (Or.inl h11) ⟨Nat.le_of_ble_eq_true rfl, Nat.le_of_ble_eq_true rfl, Nat.le_of_ble_eq_true rfl⟩ h12
theorem b_198_37 {d : Nat} {Q : (Option Value ⊕ Nat) → mi_H → Prop} (n sl : Nat) (f : Nat → mi_C) {l1 : Nat} {l2 : Nat} {l3 : Nat} {l4 : Int32} {l5 : Int64} {l6 : Int32} {l7 : Int32} {s8 : Int32} (h9 : Q (.inl (some (.int s8))) (n, sl, f)) : mi_W d 198 37 [some (.ref l1), some (.ref l2), some (.ref l3), some (.int l4), some (.long l5), none, some (.int l6), some (.int l7)] [.int s8] (n, sl, f) Q := by
  exact w_ireturn_i cd_198_37 (by decide +kernel) h9
/-! MarloweHostModel.one(LMarloweHostModel$State;LMarloweHostModel$State;I)I -/
set_option maxRecDepth 100000 in
theorem mq_199 : mt_q 199 = my_199 := rfl
set_option maxRecDepth 100000 in
theorem ci_199 : mt_inc 0 my_199.cd = true := by decide +kernel
theorem cd_199_0 : mt_cd 199 0 = some (.aload_n 0) := mt_cd_of (q := (0, .aload_n 0, 1)) mq_199 ci_199 (List.mem_of_getElem? (i := 0) rfl)
theorem cd_199_1 : mt_cd 199 1 = some (.aload_n 2) := mt_cd_of (q := (1, .aload_n 2, 1)) mq_199 ci_199 (List.mem_of_getElem? (i := 1) rfl)
theorem cd_199_2 : mt_cd 199 2 = some (.putfield 445) := mt_cd_of (q := (2, .putfield 445, 3)) mq_199 ci_199 (List.mem_of_getElem? (i := 2) rfl)
theorem cd_199_5 : mt_cd 199 5 = some (.aload_n 2) := mt_cd_of (q := (5, .aload_n 2, 1)) mq_199 ci_199 (List.mem_of_getElem? (i := 3) rfl)
theorem cd_199_6 : mt_cd 199 6 = some (.aload_n 1) := mt_cd_of (q := (6, .aload_n 1, 1)) mq_199 ci_199 (List.mem_of_getElem? (i := 4) rfl)
theorem cd_199_7 : mt_cd 199 7 = some (.invokevirtual 525) := mt_cd_of (q := (7, .invokevirtual 525, 3)) mq_199 ci_199 (List.mem_of_getElem? (i := 5) rfl)
theorem cd_199_10 : mt_cd 199 10 = some (.aload_n 0) := mt_cd_of (q := (10, .aload_n 0, 1)) mq_199 ci_199 (List.mem_of_getElem? (i := 6) rfl)
theorem cd_199_11 : mt_cd 199 11 = some (.aload_n 1) := mt_cd_of (q := (11, .aload_n 1, 1)) mq_199 ci_199 (List.mem_of_getElem? (i := 7) rfl)
theorem cd_199_12 : mt_cd 199 12 = some (.getfield 516) := mt_cd_of (q := (12, .getfield 516, 3)) mq_199 ci_199 (List.mem_of_getElem? (i := 8) rfl)
theorem cd_199_15 : mt_cd 199 15 = some (.putfield 471) := mt_cd_of (q := (15, .putfield 471, 3)) mq_199 ci_199 (List.mem_of_getElem? (i := 9) rfl)
theorem cd_199_18 : mt_cd 199 18 = some (.aload_n 0) := mt_cd_of (q := (18, .aload_n 0, 1)) mq_199 ci_199 (List.mem_of_getElem? (i := 10) rfl)
theorem cd_199_19 : mt_cd 199 19 = some (.aload_n 1) := mt_cd_of (q := (19, .aload_n 1, 1)) mq_199 ci_199 (List.mem_of_getElem? (i := 11) rfl)
theorem cd_199_20 : mt_cd 199 20 = some (.getfield 516) := mt_cd_of (q := (20, .getfield 516, 3)) mq_199 ci_199 (List.mem_of_getElem? (i := 12) rfl)
theorem cd_199_23 : mt_cd 199 23 = some (.putfield 474) := mt_cd_of (q := (23, .putfield 474, 3)) mq_199 ci_199 (List.mem_of_getElem? (i := 13) rfl)
theorem cd_199_26 : mt_cd 199 26 = some (.aload_n 0) := mt_cd_of (q := (26, .aload_n 0, 1)) mq_199 ci_199 (List.mem_of_getElem? (i := 14) rfl)
theorem cd_199_27 : mt_cd 199 27 = some (.iconst 0) := mt_cd_of (q := (27, .iconst 0, 1)) mq_199 ci_199 (List.mem_of_getElem? (i := 15) rfl)
theorem cd_199_28 : mt_cd 199 28 = some (.putfield 441) := mt_cd_of (q := (28, .putfield 441, 3)) mq_199 ci_199 (List.mem_of_getElem? (i := 16) rfl)
theorem cd_199_31 : mt_cd 199 31 = some (.aload_n 0) := mt_cd_of (q := (31, .aload_n 0, 1)) mq_199 ci_199 (List.mem_of_getElem? (i := 17) rfl)
theorem cd_199_32 : mt_cd 199 32 = some (.iconst 0) := mt_cd_of (q := (32, .iconst 0, 1)) mq_199 ci_199 (List.mem_of_getElem? (i := 18) rfl)
theorem cd_199_33 : mt_cd 199 33 = some (.putfield 258) := mt_cd_of (q := (33, .putfield 258, 3)) mq_199 ci_199 (List.mem_of_getElem? (i := 19) rfl)
theorem cd_199_36 : mt_cd 199 36 = some (.aload_n 0) := mt_cd_of (q := (36, .aload_n 0, 1)) mq_199 ci_199 (List.mem_of_getElem? (i := 20) rfl)
theorem cd_199_37 : mt_cd 199 37 = some (.getfield 77) := mt_cd_of (q := (37, .getfield 77, 3)) mq_199 ci_199 (List.mem_of_getElem? (i := 21) rfl)
theorem cd_199_40 : mt_cd 199 40 = some (.iload_n 3) := mt_cd_of (q := (40, .iload_n 3, 1)) mq_199 ci_199 (List.mem_of_getElem? (i := 22) rfl)
theorem cd_199_41 : mt_cd 199 41 = some (.iaload) := mt_cd_of (q := (41, .iaload, 1)) mq_199 ci_199 (List.mem_of_getElem? (i := 23) rfl)
theorem cd_199_42 : mt_cd 199 42 = some (.bipush 7) := mt_cd_of (q := (42, .bipush 7, 2)) mq_199 ci_199 (List.mem_of_getElem? (i := 24) rfl)
theorem cd_199_44 : mt_cd 199 44 = some (.if_icmp .ne 71) := mt_cd_of (q := (44, .if_icmp .ne 71, 3)) mq_199 ci_199 (List.mem_of_getElem? (i := 25) rfl)
theorem cd_199_47 : mt_cd 199 47 = some (.aload_n 0) := mt_cd_of (q := (47, .aload_n 0, 1)) mq_199 ci_199 (List.mem_of_getElem? (i := 26) rfl)
theorem cd_199_48 : mt_cd 199 48 = some (.aload_n 0) := mt_cd_of (q := (48, .aload_n 0, 1)) mq_199 ci_199 (List.mem_of_getElem? (i := 27) rfl)
theorem cd_199_49 : mt_cd 199 49 = some (.getfield 89) := mt_cd_of (q := (49, .getfield 89, 3)) mq_199 ci_199 (List.mem_of_getElem? (i := 28) rfl)
theorem cd_199_52 : mt_cd 199 52 = some (.iload_n 3) := mt_cd_of (q := (52, .iload_n 3, 1)) mq_199 ci_199 (List.mem_of_getElem? (i := 29) rfl)
theorem cd_199_53 : mt_cd 199 53 = some (.iaload) := mt_cd_of (q := (53, .iaload, 1)) mq_199 ci_199 (List.mem_of_getElem? (i := 30) rfl)
theorem cd_199_54 : mt_cd 199 54 = some (.invokevirtual 451) := mt_cd_of (q := (54, .invokevirtual 451, 3)) mq_199 ci_199 (List.mem_of_getElem? (i := 31) rfl)
theorem cd_199_57 : mt_cd 199 57 = some (.lstore 4) := mt_cd_of (q := (57, .lstore 4, 2)) mq_199 ci_199 (List.mem_of_getElem? (i := 32) rfl)
theorem cd_199_59 : mt_cd 199 59 = some (.aload_n 0) := mt_cd_of (q := (59, .aload_n 0, 1)) mq_199 ci_199 (List.mem_of_getElem? (i := 33) rfl)
theorem cd_199_60 : mt_cd 199 60 = some (.getfield 441) := mt_cd_of (q := (60, .getfield 441, 3)) mq_199 ci_199 (List.mem_of_getElem? (i := 34) rfl)
theorem cd_199_63 : mt_cd 199 63 = some (.ifCond .eq 14) := mt_cd_of (q := (63, .ifCond .eq 14, 3)) mq_199 ci_199 (List.mem_of_getElem? (i := 35) rfl)
theorem cd_199_66 : mt_cd 199 66 = some (.aload_n 0) := mt_cd_of (q := (66, .aload_n 0, 1)) mq_199 ci_199 (List.mem_of_getElem? (i := 36) rfl)
theorem cd_199_67 : mt_cd 199 67 = some (.aload_n 2) := mt_cd_of (q := (67, .aload_n 2, 1)) mq_199 ci_199 (List.mem_of_getElem? (i := 37) rfl)
theorem cd_199_68 : mt_cd 199 68 = some (.bipush 6) := mt_cd_of (q := (68, .bipush 6, 2)) mq_199 ci_199 (List.mem_of_getElem? (i := 38) rfl)
theorem cd_199_70 : mt_cd 199 70 = some (.iconst 1) := mt_cd_of (q := (70, .iconst 1, 1)) mq_199 ci_199 (List.mem_of_getElem? (i := 39) rfl)
theorem cd_199_71 : mt_cd 199 71 = some (.lconst 0) := mt_cd_of (q := (71, .lconst 0, 1)) mq_199 ci_199 (List.mem_of_getElem? (i := 40) rfl)
theorem cd_199_72 : mt_cd 199 72 = some (.iload_n 3) := mt_cd_of (q := (72, .iload_n 3, 1)) mq_199 ci_199 (List.mem_of_getElem? (i := 41) rfl)
theorem cd_199_73 : mt_cd 199 73 = some (.invokevirtual 575) := mt_cd_of (q := (73, .invokevirtual 575, 3)) mq_199 ci_199 (List.mem_of_getElem? (i := 42) rfl)
theorem cd_199_76 : mt_cd 199 76 = some (.ireturn) := mt_cd_of (q := (76, .ireturn, 1)) mq_199 ci_199 (List.mem_of_getElem? (i := 43) rfl)
theorem cd_199_77 : mt_cd 199 77 = some (.aload_n 0) := mt_cd_of (q := (77, .aload_n 0, 1)) mq_199 ci_199 (List.mem_of_getElem? (i := 44) rfl)
theorem cd_199_78 : mt_cd 199 78 = some (.bipush 7) := mt_cd_of (q := (78, .bipush 7, 2)) mq_199 ci_199 (List.mem_of_getElem? (i := 45) rfl)
theorem cd_199_80 : mt_cd 199 80 = some (.aload_n 0) := mt_cd_of (q := (80, .aload_n 0, 1)) mq_199 ci_199 (List.mem_of_getElem? (i := 46) rfl)
theorem cd_199_81 : mt_cd 199 81 = some (.getfield 80) := mt_cd_of (q := (81, .getfield 80, 3)) mq_199 ci_199 (List.mem_of_getElem? (i := 47) rfl)
theorem cd_199_84 : mt_cd 199 84 = some (.iload_n 3) := mt_cd_of (q := (84, .iload_n 3, 1)) mq_199 ci_199 (List.mem_of_getElem? (i := 48) rfl)
theorem cd_199_85 : mt_cd 199 85 = some (.iaload) := mt_cd_of (q := (85, .iaload, 1)) mq_199 ci_199 (List.mem_of_getElem? (i := 49) rfl)
theorem cd_199_86 : mt_cd 199 86 = some (.aload_n 0) := mt_cd_of (q := (86, .aload_n 0, 1)) mq_199 ci_199 (List.mem_of_getElem? (i := 50) rfl)
theorem cd_199_87 : mt_cd 199 87 = some (.getfield 83) := mt_cd_of (q := (87, .getfield 83, 3)) mq_199 ci_199 (List.mem_of_getElem? (i := 51) rfl)
theorem cd_199_90 : mt_cd 199 90 = some (.iload_n 3) := mt_cd_of (q := (90, .iload_n 3, 1)) mq_199 ci_199 (List.mem_of_getElem? (i := 52) rfl)
theorem cd_199_91 : mt_cd 199 91 = some (.iaload) := mt_cd_of (q := (91, .iaload, 1)) mq_199 ci_199 (List.mem_of_getElem? (i := 53) rfl)
theorem cd_199_92 : mt_cd 199 92 = some (.aload_n 0) := mt_cd_of (q := (92, .aload_n 0, 1)) mq_199 ci_199 (List.mem_of_getElem? (i := 54) rfl)
theorem cd_199_93 : mt_cd 199 93 = some (.getfield 86) := mt_cd_of (q := (93, .getfield 86, 3)) mq_199 ci_199 (List.mem_of_getElem? (i := 55) rfl)
theorem cd_199_96 : mt_cd 199 96 = some (.iload_n 3) := mt_cd_of (q := (96, .iload_n 3, 1)) mq_199 ci_199 (List.mem_of_getElem? (i := 56) rfl)
theorem cd_199_97 : mt_cd 199 97 = some (.iaload) := mt_cd_of (q := (97, .iaload, 1)) mq_199 ci_199 (List.mem_of_getElem? (i := 57) rfl)
theorem cd_199_98 : mt_cd 199 98 = some (.lload 4) := mt_cd_of (q := (98, .lload 4, 2)) mq_199 ci_199 (List.mem_of_getElem? (i := 58) rfl)
theorem cd_199_100 : mt_cd 199 100 = some (.invokevirtual 548) := mt_cd_of (q := (100, .invokevirtual 548, 3)) mq_199 ci_199 (List.mem_of_getElem? (i := 59) rfl)
theorem cd_199_103 : mt_cd 199 103 = some (.pop) := mt_cd_of (q := (103, .pop, 1)) mq_199 ci_199 (List.mem_of_getElem? (i := 60) rfl)
theorem cd_199_104 : mt_cd 199 104 = some (.aload_n 0) := mt_cd_of (q := (104, .aload_n 0, 1)) mq_199 ci_199 (List.mem_of_getElem? (i := 61) rfl)
theorem cd_199_105 : mt_cd 199 105 = some (.aload_n 1) := mt_cd_of (q := (105, .aload_n 1, 1)) mq_199 ci_199 (List.mem_of_getElem? (i := 62) rfl)
theorem cd_199_106 : mt_cd 199 106 = some (.aload_n 2) := mt_cd_of (q := (106, .aload_n 2, 1)) mq_199 ci_199 (List.mem_of_getElem? (i := 63) rfl)
theorem cd_199_107 : mt_cd 199 107 = some (.iconst 1) := mt_cd_of (q := (107, .iconst 1, 1)) mq_199 ci_199 (List.mem_of_getElem? (i := 64) rfl)
theorem cd_199_108 : mt_cd 199 108 = some (.lload 4) := mt_cd_of (q := (108, .lload 4, 2)) mq_199 ci_199 (List.mem_of_getElem? (i := 65) rfl)
theorem cd_199_110 : mt_cd 199 110 = some (.iload_n 3) := mt_cd_of (q := (110, .iload_n 3, 1)) mq_199 ci_199 (List.mem_of_getElem? (i := 66) rfl)
theorem cd_199_111 : mt_cd 199 111 = some (.invokevirtual 586) := mt_cd_of (q := (111, .invokevirtual 586, 3)) mq_199 ci_199 (List.mem_of_getElem? (i := 67) rfl)
theorem cd_199_114 : mt_cd 199 114 = some (.ireturn) := mt_cd_of (q := (114, .ireturn, 1)) mq_199 ci_199 (List.mem_of_getElem? (i := 68) rfl)
theorem cd_199_115 : mt_cd 199 115 = some (.aload_n 0) := mt_cd_of (q := (115, .aload_n 0, 1)) mq_199 ci_199 (List.mem_of_getElem? (i := 69) rfl)
theorem cd_199_116 : mt_cd 199 116 = some (.aload_n 0) := mt_cd_of (q := (116, .aload_n 0, 1)) mq_199 ci_199 (List.mem_of_getElem? (i := 70) rfl)
theorem cd_199_117 : mt_cd 199 117 = some (.getfield 89) := mt_cd_of (q := (117, .getfield 89, 3)) mq_199 ci_199 (List.mem_of_getElem? (i := 71) rfl)
theorem cd_199_120 : mt_cd 199 120 = some (.iload_n 3) := mt_cd_of (q := (120, .iload_n 3, 1)) mq_199 ci_199 (List.mem_of_getElem? (i := 72) rfl)
theorem cd_199_121 : mt_cd 199 121 = some (.iaload) := mt_cd_of (q := (121, .iaload, 1)) mq_199 ci_199 (List.mem_of_getElem? (i := 73) rfl)
theorem cd_199_122 : mt_cd 199 122 = some (.invokevirtual 477) := mt_cd_of (q := (122, .invokevirtual 477, 3)) mq_199 ci_199 (List.mem_of_getElem? (i := 74) rfl)
theorem cd_199_125 : mt_cd 199 125 = some (.istore 4) := mt_cd_of (q := (125, .istore 4, 2)) mq_199 ci_199 (List.mem_of_getElem? (i := 75) rfl)
theorem cd_199_127 : mt_cd 199 127 = some (.iload 4) := mt_cd_of (q := (127, .iload 4, 2)) mq_199 ci_199 (List.mem_of_getElem? (i := 76) rfl)
theorem cd_199_129 : mt_cd 199 129 = some (.ifCond .ne 12) := mt_cd_of (q := (129, .ifCond .ne 12, 3)) mq_199 ci_199 (List.mem_of_getElem? (i := 77) rfl)
theorem cd_199_132 : mt_cd 199 132 = some (.aload_n 0) := mt_cd_of (q := (132, .aload_n 0, 1)) mq_199 ci_199 (List.mem_of_getElem? (i := 78) rfl)
theorem cd_199_133 : mt_cd 199 133 = some (.getfield 441) := mt_cd_of (q := (133, .getfield 441, 3)) mq_199 ci_199 (List.mem_of_getElem? (i := 79) rfl)
theorem cd_199_136 : mt_cd 199 136 = some (.ifCond .ne 5) := mt_cd_of (q := (136, .ifCond .ne 5, 3)) mq_199 ci_199 (List.mem_of_getElem? (i := 80) rfl)
theorem cd_199_139 : mt_cd 199 139 = some (.iconst 0) := mt_cd_of (q := (139, .iconst 0, 1)) mq_199 ci_199 (List.mem_of_getElem? (i := 81) rfl)
theorem cd_199_140 : mt_cd 199 140 = some (.ireturn) := mt_cd_of (q := (140, .ireturn, 1)) mq_199 ci_199 (List.mem_of_getElem? (i := 82) rfl)
theorem cd_199_141 : mt_cd 199 141 = some (.aload_n 0) := mt_cd_of (q := (141, .aload_n 0, 1)) mq_199 ci_199 (List.mem_of_getElem? (i := 83) rfl)
theorem cd_199_142 : mt_cd 199 142 = some (.bipush 9) := mt_cd_of (q := (142, .bipush 9, 2)) mq_199 ci_199 (List.mem_of_getElem? (i := 84) rfl)
theorem cd_199_144 : mt_cd 199 144 = some (.iconst 0) := mt_cd_of (q := (144, .iconst 0, 1)) mq_199 ci_199 (List.mem_of_getElem? (i := 85) rfl)
theorem cd_199_145 : mt_cd 199 145 = some (.iconst 0) := mt_cd_of (q := (145, .iconst 0, 1)) mq_199 ci_199 (List.mem_of_getElem? (i := 86) rfl)
theorem cd_199_146 : mt_cd 199 146 = some (.iconst 0) := mt_cd_of (q := (146, .iconst 0, 1)) mq_199 ci_199 (List.mem_of_getElem? (i := 87) rfl)
theorem cd_199_147 : mt_cd 199 147 = some (.lconst 0) := mt_cd_of (q := (147, .lconst 0, 1)) mq_199 ci_199 (List.mem_of_getElem? (i := 88) rfl)
theorem cd_199_148 : mt_cd 199 148 = some (.invokevirtual 548) := mt_cd_of (q := (148, .invokevirtual 548, 3)) mq_199 ci_199 (List.mem_of_getElem? (i := 89) rfl)
theorem cd_199_151 : mt_cd 199 151 = some (.pop) := mt_cd_of (q := (151, .pop, 1)) mq_199 ci_199 (List.mem_of_getElem? (i := 90) rfl)
theorem cd_199_152 : mt_cd 199 152 = some (.aload_n 0) := mt_cd_of (q := (152, .aload_n 0, 1)) mq_199 ci_199 (List.mem_of_getElem? (i := 91) rfl)
theorem cd_199_153 : mt_cd 199 153 = some (.aload_n 1) := mt_cd_of (q := (153, .aload_n 1, 1)) mq_199 ci_199 (List.mem_of_getElem? (i := 92) rfl)
theorem cd_199_154 : mt_cd 199 154 = some (.aload_n 2) := mt_cd_of (q := (154, .aload_n 2, 1)) mq_199 ci_199 (List.mem_of_getElem? (i := 93) rfl)
theorem cd_199_155 : mt_cd 199 155 = some (.iconst 3) := mt_cd_of (q := (155, .iconst 3, 1)) mq_199 ci_199 (List.mem_of_getElem? (i := 94) rfl)
theorem cd_199_156 : mt_cd 199 156 = some (.lconst 0) := mt_cd_of (q := (156, .lconst 0, 1)) mq_199 ci_199 (List.mem_of_getElem? (i := 95) rfl)
theorem cd_199_157 : mt_cd 199 157 = some (.iload_n 3) := mt_cd_of (q := (157, .iload_n 3, 1)) mq_199 ci_199 (List.mem_of_getElem? (i := 96) rfl)
theorem cd_199_158 : mt_cd 199 158 = some (.invokevirtual 586) := mt_cd_of (q := (158, .invokevirtual 586, 3)) mq_199 ci_199 (List.mem_of_getElem? (i := 97) rfl)
theorem cd_199_161 : mt_cd 199 161 = some (.ireturn) := mt_cd_of (q := (161, .ireturn, 1)) mq_199 ci_199 (List.mem_of_getElem? (i := 98) rfl)
theorem b_199_0 {d : Nat} {Q : (Option Value ⊕ Nat) → mi_H → Prop} (n sl : Nat) (f : Nat → mi_C) {l1 : Nat} {l2 : Nat} {l3 : Nat} {l4 : Int32} {o5 : Option Value} {o6 : Option Value} {fs7 : List Value} {fs11 : List Value} (h8 : f l1 = .inr (12, fs7)) (h9 : l1 < n) (h10 : 43 < fs7.length) (h12 : (va_up f l1 (.inr (12, fs7.set 43 (.ref l3)))) l3 = .inr (13, fs11)) (h13 : l3 < n) (h14 : mi_W d 171 0 (mi_en 3 [.ref l3, .ref l2]) [] (n, sl, (va_up f l1 (.inr (12, fs7.set 43 (.ref l3))))) (mi_Kc d 199 7 [some (.ref l1), some (.ref l2), some (.ref l3), some (.int l4), o5, o6] [] Q)) : mi_W (d + 1) 199 0 [some (.ref l1), some (.ref l2), some (.ref l3), some (.int l4), o5, o6] [] (n, sl, f) Q := by
  refine w_aload_n cd_199_0 rfl ?_
  refine w_aload_n cd_199_1 rfl ?_
  refine w_putfield (w := .ref l3) cd_199_2 (show mt_f 12 445 = some (12, 43) by decide +kernel) h8 h9 ⟨h10, rfl, Or.inl (by decide)⟩ ?_
  refine w_aload_n cd_199_5 rfl ?_
  refine w_aload_n cd_199_6 rfl ?_
  exact w_invokevirtual cd_199_7 (show mt_m 12 525 = some (171, 0) by decide +kernel) (rest := []) rfl (as := [.ref l3, .ref l2]) rfl h12 (Or.inl h13) ⟨Nat.le_of_ble_eq_true rfl, Nat.le_of_ble_eq_true rfl, Nat.le_of_ble_eq_true rfl⟩ h14
theorem b_199_10 {d : Nat} {Q : (Option Value ⊕ Nat) → mi_H → Prop} (n sl : Nat) (f : Nat → mi_C) {l1 : Nat} {l2 : Nat} {l3 : Nat} {l4 : Int32} {o5 : Option Value} {o6 : Option Value} {fs7 : List Value} {x10 : Int64} {fs12 : List Value} {fs16 : List Value} {x19 : Int64} {fs21 : List Value} {fs25 : List Value} {fs30 : List Value} {fs34 : List Value} {x37 : Nat} (m39 i39 : Nat) (g39 : Nat → Int32) (h8 : f l2 = .inr (13, fs7)) (h9 : l2 < n) (h11 : fs7[1]? = some (.long x10)) (h13 : f l1 = .inr (12, fs12)) (h14 : l1 < n) (h15 : 44 < fs12.length) (h17 : (va_up f l1 (.inr (12, fs12.set 44 (.long x10)))) l2 = .inr (13, fs16)) (h18 : l2 < n) (h20 : fs16[1]? = some (.long x19)) (h22 : (va_up f l1 (.inr (12, fs12.set 44 (.long x10)))) l1 = .inr (12, fs21)) (h23 : l1 < n) (h24 : 45 < fs21.length) (h26 : (va_up (va_up f l1 (.inr (12, fs12.set 44 (.long x10)))) l1 (.inr (12, fs21.set 45 (.long x19)))) l1 = .inr (12, fs25)) (h27 : l1 < n) (h28 : 46 < fs25.length) (h29 : mi_fk .boolean (.int 0) = true) (h31 : (va_up (va_up (va_up f l1 (.inr (12, fs12.set 44 (.long x10)))) l1 (.inr (12, fs21.set 45 (.long x19)))) l1 (.inr (12, fs25.set 46 (.int 0)))) l1 = .inr (12, fs30)) (h32 : l1 < n) (h33 : 59 < fs30.length) (h35 : (va_up (va_up (va_up (va_up f l1 (.inr (12, fs12.set 44 (.long x10)))) l1 (.inr (12, fs21.set 45 (.long x19)))) l1 (.inr (12, fs25.set 46 (.int 0)))) l1 (.inr (12, fs30.set 59 (.int 0)))) l1 = .inr (12, fs34)) (h36 : l1 < n) (h38 : fs34[12]? = some (.ref x37)) (h40 : (va_up (va_up (va_up (va_up f l1 (.inr (12, fs12.set 44 (.long x10)))) l1 (.inr (12, fs21.set 45 (.long x19)))) l1 (.inr (12, fs25.set 46 (.int 0)))) l1 (.inr (12, fs30.set 59 (.int 0)))) x37 = .inl (0, m39, .inl g39)) (h41 : x37 < n ∨ x37 = mi_SC) (h42 : mi_ix l4 m39 i39) (h43 : ¬ (g39 i39) = 7 → mi_W d 199 115 [some (.ref l1), some (.ref l2), some (.ref l3), some (.int l4), o5, o6] [] (n, sl, (va_up (va_up (va_up (va_up f l1 (.inr (12, fs12.set 44 (.long x10)))) l1 (.inr (12, fs21.set 45 (.long x19)))) l1 (.inr (12, fs25.set 46 (.int 0)))) l1 (.inr (12, fs30.set 59 (.int 0))))) Q) (h44 : ¬ (¬ (g39 i39) = 7) → mi_W d 199 47 [some (.ref l1), some (.ref l2), some (.ref l3), some (.int l4), o5, o6] [] (n, sl, (va_up (va_up (va_up (va_up f l1 (.inr (12, fs12.set 44 (.long x10)))) l1 (.inr (12, fs21.set 45 (.long x19)))) l1 (.inr (12, fs25.set 46 (.int 0)))) l1 (.inr (12, fs30.set 59 (.int 0))))) Q) : mi_W d 199 10 [some (.ref l1), some (.ref l2), some (.ref l3), some (.int l4), o5, o6] [] (n, sl, f) Q := by
  refine w_aload_n cd_199_10 rfl ?_
  refine w_aload_n cd_199_11 rfl ?_
  refine w_getfield cd_199_12 (show mt_f 12 516 = some (13, 1) by decide +kernel) h8 h9 h11 ?_
  refine w_putfield (w := .long x10) cd_199_15 (show mt_f 12 471 = some (12, 44) by decide +kernel) h13 h14 ⟨h15, rfl, Or.inl (by decide)⟩ ?_
  refine w_aload_n cd_199_18 rfl ?_
  refine w_aload_n cd_199_19 rfl ?_
  refine w_getfield cd_199_20 (show mt_f 12 516 = some (13, 1) by decide +kernel) h17 h18 h20 ?_
  refine w_putfield (w := .long x19) cd_199_23 (show mt_f 12 474 = some (12, 45) by decide +kernel) h22 h23 ⟨h24, rfl, Or.inl (by decide)⟩ ?_
  refine w_aload_n cd_199_26 rfl ?_
  refine w_iconst (v := 0) cd_199_27 (by decide) ?_
  refine w_putfield (w := .int 0) cd_199_28 (show mt_f 12 441 = some (12, 46) by decide +kernel) h26 h27 ⟨h28, h29, Or.inl (by decide)⟩ ?_
  refine w_aload_n cd_199_31 rfl ?_
  refine w_iconst (v := 0) cd_199_32 (by decide) ?_
  refine w_putfield (w := .int 0) cd_199_33 (show mt_f 12 258 = some (12, 59) by decide +kernel) h31 h32 ⟨h33, rfl, Or.inl (by decide)⟩ ?_
  refine w_aload_n cd_199_36 rfl ?_
  refine w_getfield cd_199_37 (show mt_f 12 77 = some (12, 12) by decide +kernel) h35 h36 h38 ?_
  refine w_iload_n cd_199_40 rfl ?_
  refine w_iaload cd_199_41 h40 h41 h42 ?_
  refine w_bipush (v := 7) cd_199_42 (by decide) ?_
  exact w_if_icmpne cd_199_44 (by decide) h43 h44
theorem b_199_47 {d : Nat} {Q : (Option Value ⊕ Nat) → mi_H → Prop} (n sl : Nat) (f : Nat → mi_C) {l1 : Nat} {l2 : Nat} {l3 : Nat} {l4 : Int32} {o5 : Option Value} {o6 : Option Value} {fs7 : List Value} {x10 : Nat} (m12 i12 : Nat) (g12 : Nat → Int32) {fs16 : List Value} (h8 : f l1 = .inr (12, fs7)) (h9 : l1 < n) (h11 : fs7[16]? = some (.ref x10)) (h13 : f x10 = .inl (0, m12, .inl g12)) (h14 : x10 < n ∨ x10 = mi_SC) (h15 : mi_ix l4 m12 i12) (h17 : f l1 = .inr (12, fs16)) (h18 : l1 < n) (h19 : mi_W d 175 0 (mi_en 2 [.ref l1, .int (g12 i12)]) [] (n, sl, f) (mi_Kc d 199 54 [some (.ref l1), some (.ref l2), some (.ref l3), some (.int l4), o5, o6] [] Q)) : mi_W (d + 1) 199 47 [some (.ref l1), some (.ref l2), some (.ref l3), some (.int l4), o5, o6] [] (n, sl, f) Q := by
  refine w_aload_n cd_199_47 rfl ?_
  refine w_aload_n cd_199_48 rfl ?_
  refine w_getfield cd_199_49 (show mt_f 12 89 = some (12, 16) by decide +kernel) h8 h9 h11 ?_
  refine w_iload_n cd_199_52 rfl ?_
  refine w_iaload cd_199_53 h13 h14 h15 ?_
  exact w_invokevirtual cd_199_54 (show mt_m 12 451 = some (175, 0) by decide +kernel) (rest := []) rfl (as := [.ref l1, .int (g12 i12)]) rfl h17 (Or.inl h18) ⟨Nat.le_of_ble_eq_true rfl, Nat.le_of_ble_eq_true rfl, Nat.le_of_ble_eq_true rfl⟩ h19
theorem b_199_57 {d : Nat} {Q : (Option Value ⊕ Nat) → mi_H → Prop} (n sl : Nat) (f : Nat → mi_C) {l1 : Nat} {l2 : Nat} {l3 : Nat} {l4 : Int32} {o5 : Option Value} {o6 : Option Value} {s7 : Int64} {fs8 : List Value} {x11 : Int32} (h9 : f l1 = .inr (12, fs8)) (h10 : l1 < n) (h12 : fs8[46]? = some (.int x11)) (h13 : x11 = (0 : Int32) → mi_W d 199 77 [some (.ref l1), some (.ref l2), some (.ref l3), some (.int l4), some (.long s7), none] [] (n, sl, f) Q) (h14 : ¬ (x11 = (0 : Int32)) → mi_W d 199 66 [some (.ref l1), some (.ref l2), some (.ref l3), some (.int l4), some (.long s7), none] [] (n, sl, f) Q) : mi_W d 199 57 [some (.ref l1), some (.ref l2), some (.ref l3), some (.int l4), o5, o6] [.long s7] (n, sl, f) Q := by
  refine w_lstore (ls' := [some (.ref l1), some (.ref l2), some (.ref l3), some (.int l4), some (.long s7), none]) cd_199_57 (Nat.le_of_ble_eq_true rfl) rfl ?_
  refine w_aload_n cd_199_59 rfl ?_
  refine w_getfield cd_199_60 (show mt_f 12 441 = some (12, 46) by decide +kernel) h9 h10 h12 ?_
  exact w_ifeq cd_199_63 (by decide) h13 h14
theorem b_199_66 {d : Nat} {Q : (Option Value ⊕ Nat) → mi_H → Prop} (n sl : Nat) (f : Nat → mi_C) {l1 : Nat} {l2 : Nat} {l3 : Nat} {l4 : Int32} {l5 : Int64} {fs6 : List Value} (h7 : f l1 = .inr (12, fs6)) (h8 : l1 < n) (h9 : mi_W d 196 0 (mi_en 8 [.ref l1, .ref l3, .int 6, .int 1, .long 0, .int l4]) [] (n, sl, f) (mi_Kc d 199 73 [some (.ref l1), some (.ref l2), some (.ref l3), some (.int l4), some (.long l5), none] [] Q)) : mi_W (d + 1) 199 66 [some (.ref l1), some (.ref l2), some (.ref l3), some (.int l4), some (.long l5), none] [] (n, sl, f) Q := by
  refine w_aload_n cd_199_66 rfl ?_
  refine w_aload_n cd_199_67 rfl ?_
  refine w_bipush (v := 6) cd_199_68 (by decide) ?_
  refine w_iconst (v := 1) cd_199_70 (by decide) ?_
  refine w_lconst (lv := 0) cd_199_71 (by decide) ?_
  refine w_iload_n cd_199_72 rfl ?_
  exact w_invokevirtual cd_199_73 (show mt_m 12 575 = some (196, 0) by decide +kernel) (rest := []) rfl (as := [.ref l1, .ref l3, .int 6, .int 1, .long 0, .int l4]) rfl h7 (Or.inl h8) ⟨Nat.le_of_ble_eq_true rfl, Nat.le_of_ble_eq_true rfl, Nat.le_of_ble_eq_true rfl⟩ h9
theorem b_199_76 {d : Nat} {Q : (Option Value ⊕ Nat) → mi_H → Prop} (n sl : Nat) (f : Nat → mi_C) {l1 : Nat} {l2 : Nat} {l3 : Nat} {l4 : Int32} {l5 : Int64} {s6 : Int32} (h7 : Q (.inl (some (.int s6))) (n, sl, f)) : mi_W d 199 76 [some (.ref l1), some (.ref l2), some (.ref l3), some (.int l4), some (.long l5), none] [.int s6] (n, sl, f) Q := by
  exact w_ireturn_i cd_199_76 (by decide +kernel) h7
theorem b_199_77 {d : Nat} {Q : (Option Value ⊕ Nat) → mi_H → Prop} (n sl : Nat) (f : Nat → mi_C) {l1 : Nat} {l2 : Nat} {l3 : Nat} {l4 : Int32} {l5 : Int64} {fs6 : List Value} {x9 : Nat} (m11 i11 : Nat) (g11 : Nat → Int32) {fs15 : List Value} {x18 : Nat} (m20 i20 : Nat) (g20 : Nat → Int32) {fs24 : List Value} {x27 : Nat} (m29 i29 : Nat) (g29 : Nat → Int32) {fs33 : List Value} (h7 : f l1 = .inr (12, fs6)) (h8 : l1 < n) (h10 : fs6[13]? = some (.ref x9)) (h12 : f x9 = .inl (0, m11, .inl g11)) (h13 : x9 < n ∨ x9 = mi_SC) (h14 : mi_ix l4 m11 i11) (h16 : f l1 = .inr (12, fs15)) (h17 : l1 < n) (h19 : fs15[14]? = some (.ref x18)) (h21 : f x18 = .inl (0, m20, .inl g20)) (h22 : x18 < n ∨ x18 = mi_SC) (h23 : mi_ix l4 m20 i20) (h25 : f l1 = .inr (12, fs24)) (h26 : l1 < n) (h28 : fs24[15]? = some (.ref x27)) (h30 : f x27 = .inl (0, m29, .inl g29)) (h31 : x27 < n ∨ x27 = mi_SC) (h32 : mi_ix l4 m29 i29) (h34 : f l1 = .inr (12, fs33)) (h35 : l1 < n) (h36 : mi_W d 186 0 (mi_en 7 [.ref l1, .int 7, .int (g11 i11), .int (g20 i20), .int (g29 i29), .long l5]) [] (n, sl, f) (mi_Kc d 199 100 [some (.ref l1), some (.ref l2), some (.ref l3), some (.int l4), some (.long l5), none] [] Q)) : mi_W (d + 1) 199 77 [some (.ref l1), some (.ref l2), some (.ref l3), some (.int l4), some (.long l5), none] [] (n, sl, f) Q := by
  refine w_aload_n cd_199_77 rfl ?_
  refine w_bipush (v := 7) cd_199_78 (by decide) ?_
  refine w_aload_n cd_199_80 rfl ?_
  refine w_getfield cd_199_81 (show mt_f 12 80 = some (12, 13) by decide +kernel) h7 h8 h10 ?_
  refine w_iload_n cd_199_84 rfl ?_
  refine w_iaload cd_199_85 h12 h13 h14 ?_
  refine w_aload_n cd_199_86 rfl ?_
  refine w_getfield cd_199_87 (show mt_f 12 83 = some (12, 14) by decide +kernel) h16 h17 h19 ?_
  refine w_iload_n cd_199_90 rfl ?_
  refine w_iaload cd_199_91 h21 h22 h23 ?_
  refine w_aload_n cd_199_92 rfl ?_
  refine w_getfield cd_199_93 (show mt_f 12 86 = some (12, 15) by decide +kernel) h25 h26 h28 ?_
  refine w_iload_n cd_199_96 rfl ?_
  refine w_iaload cd_199_97 h30 h31 h32 ?_
  refine w_lload cd_199_98 rfl ?_
  exact w_invokevirtual cd_199_100 (show mt_m 12 548 = some (186, 0) by decide +kernel) (rest := []) rfl (as := [.ref l1, .int 7, .int (g11 i11), .int (g20 i20), .int (g29 i29), .long l5]) rfl h34 (Or.inl h35) ⟨Nat.le_of_ble_eq_true rfl, Nat.le_of_ble_eq_true rfl, Nat.le_of_ble_eq_true rfl⟩ h36
theorem b_199_103 {d : Nat} {Q : (Option Value ⊕ Nat) → mi_H → Prop} (n sl : Nat) (f : Nat → mi_C) {l1 : Nat} {l2 : Nat} {l3 : Nat} {l4 : Int32} {l5 : Int64} {s6 : Int32} {fs7 : List Value} (h8 : f l1 = .inr (12, fs7)) (h9 : l1 < n) (h10 : mi_W d 198 0 (mi_en 8 [.ref l1, .ref l2, .ref l3, .int 1, .long l5, .int l4]) [] (n, sl, f) (mi_Kc d 199 111 [some (.ref l1), some (.ref l2), some (.ref l3), some (.int l4), some (.long l5), none] [] Q)) : mi_W (d + 1) 199 103 [some (.ref l1), some (.ref l2), some (.ref l3), some (.int l4), some (.long l5), none] [.int s6] (n, sl, f) Q := by
  refine w_pop_i cd_199_103 ?_
  refine w_aload_n cd_199_104 rfl ?_
  refine w_aload_n cd_199_105 rfl ?_
  refine w_aload_n cd_199_106 rfl ?_
  refine w_iconst (v := 1) cd_199_107 (by decide) ?_
  refine w_lload cd_199_108 rfl ?_
  refine w_iload_n cd_199_110 rfl ?_
  exact w_invokevirtual cd_199_111 (show mt_m 12 586 = some (198, 0) by decide +kernel) (rest := []) rfl (as := [.ref l1, .ref l2, .ref l3, .int 1, .long l5, .int l4]) rfl h8 (Or.inl h9) ⟨Nat.le_of_ble_eq_true rfl, Nat.le_of_ble_eq_true rfl, Nat.le_of_ble_eq_true rfl⟩ h10
theorem b_199_114 {d : Nat} {Q : (Option Value ⊕ Nat) → mi_H → Prop} (n sl : Nat) (f : Nat → mi_C) {l1 : Nat} {l2 : Nat} {l3 : Nat} {l4 : Int32} {l5 : Int64} {s6 : Int32} (h7 : Q (.inl (some (.int s6))) (n, sl, f)) : mi_W d 199 114 [some (.ref l1), some (.ref l2), some (.ref l3), some (.int l4), some (.long l5), none] [.int s6] (n, sl, f) Q := by
  exact w_ireturn_i cd_199_114 (by decide +kernel) h7
theorem b_199_115 {d : Nat} {Q : (Option Value ⊕ Nat) → mi_H → Prop} (n sl : Nat) (f : Nat → mi_C) {l1 : Nat} {l2 : Nat} {l3 : Nat} {l4 : Int32} {o5 : Option Value} {o6 : Option Value} {fs7 : List Value} {x10 : Nat} (m12 i12 : Nat) (g12 : Nat → Int32) {fs16 : List Value} (h8 : f l1 = .inr (12, fs7)) (h9 : l1 < n) (h11 : fs7[16]? = some (.ref x10)) (h13 : f x10 = .inl (0, m12, .inl g12)) (h14 : x10 < n ∨ x10 = mi_SC) (h15 : mi_ix l4 m12 i12) (h17 : f l1 = .inr (12, fs16)) (h18 : l1 < n) (h19 : mi_W d 177 0 (mi_en 6 [.ref l1, .int (g12 i12)]) [] (n, sl, f) (mi_Kc d 199 122 [some (.ref l1), some (.ref l2), some (.ref l3), some (.int l4), o5, o6] [] Q)) : mi_W (d + 1) 199 115 [some (.ref l1), some (.ref l2), some (.ref l3), some (.int l4), o5, o6] [] (n, sl, f) Q := by
  refine w_aload_n cd_199_115 rfl ?_
  refine w_aload_n cd_199_116 rfl ?_
  refine w_getfield cd_199_117 (show mt_f 12 89 = some (12, 16) by decide +kernel) h8 h9 h11 ?_
  refine w_iload_n cd_199_120 rfl ?_
  refine w_iaload cd_199_121 h13 h14 h15 ?_
  exact w_invokevirtual cd_199_122 (show mt_m 12 477 = some (177, 0) by decide +kernel) (rest := []) rfl (as := [.ref l1, .int (g12 i12)]) rfl h17 (Or.inl h18) ⟨Nat.le_of_ble_eq_true rfl, Nat.le_of_ble_eq_true rfl, Nat.le_of_ble_eq_true rfl⟩ h19
theorem b_199_125 {d : Nat} {Q : (Option Value ⊕ Nat) → mi_H → Prop} (n sl : Nat) (f : Nat → mi_C) {l1 : Nat} {l2 : Nat} {l3 : Nat} {l4 : Int32} {o5 : Option Value} {o6 : Option Value} {s7 : Int32} (h8 : ¬ s7 = (0 : Int32) → mi_W d 199 141 [some (.ref l1), some (.ref l2), some (.ref l3), some (.int l4), some (.int s7), o6] [] (n, sl, f) Q) (h9 : ¬ (¬ s7 = (0 : Int32)) → mi_W d 199 132 [some (.ref l1), some (.ref l2), some (.ref l3), some (.int l4), some (.int s7), o6] [] (n, sl, f) Q) : mi_W d 199 125 [some (.ref l1), some (.ref l2), some (.ref l3), some (.int l4), o5, o6] [.int s7] (n, sl, f) Q := by
  refine w_istore (ls' := [some (.ref l1), some (.ref l2), some (.ref l3), some (.int l4), some (.int s7), o6]) cd_199_125 (Nat.le_of_ble_eq_true rfl) rfl ?_
  refine w_iload cd_199_127 rfl ?_
  exact w_ifne cd_199_129 (by decide) h8 h9
theorem b_199_132 {d : Nat} {Q : (Option Value ⊕ Nat) → mi_H → Prop} (n sl : Nat) (f : Nat → mi_C) {l1 : Nat} {l2 : Nat} {l3 : Nat} {l4 : Int32} {l5 : Int32} {o6 : Option Value} {fs7 : List Value} {x10 : Int32} (h8 : f l1 = .inr (12, fs7)) (h9 : l1 < n) (h11 : fs7[46]? = some (.int x10)) (h12 : ¬ x10 = (0 : Int32) → mi_W d 199 141 [some (.ref l1), some (.ref l2), some (.ref l3), some (.int l4), some (.int l5), o6] [] (n, sl, f) Q) (h13 : ¬ (¬ x10 = (0 : Int32)) → mi_W d 199 139 [some (.ref l1), some (.ref l2), some (.ref l3), some (.int l4), some (.int l5), o6] [] (n, sl, f) Q) : mi_W d 199 132 [some (.ref l1), some (.ref l2), some (.ref l3), some (.int l4), some (.int l5), o6] [] (n, sl, f) Q := by
  refine w_aload_n cd_199_132 rfl ?_
  refine w_getfield cd_199_133 (show mt_f 12 441 = some (12, 46) by decide +kernel) h8 h9 h11 ?_
  exact w_ifne cd_199_136 (by decide) h12 h13
theorem b_199_139 {d : Nat} {Q : (Option Value ⊕ Nat) → mi_H → Prop} (n sl : Nat) (f : Nat → mi_C) {l1 : Nat} {l2 : Nat} {l3 : Nat} {l4 : Int32} {l5 : Int32} {o6 : Option Value} (h7 : Q (.inl (some (.int 0))) (n, sl, f)) : mi_W d 199 139 [some (.ref l1), some (.ref l2), some (.ref l3), some (.int l4), some (.int l5), o6] [] (n, sl, f) Q := by
  refine w_iconst (v := 0) cd_199_139 (by decide) ?_
  exact w_ireturn_i cd_199_140 (by decide +kernel) h7
theorem b_199_141 {d : Nat} {Q : (Option Value ⊕ Nat) → mi_H → Prop} (n sl : Nat) (f : Nat → mi_C) {l1 : Nat} {l2 : Nat} {l3 : Nat} {l4 : Int32} {l5 : Int32} {o6 : Option Value} {fs7 : List Value} (h8 : f l1 = .inr (12, fs7)) (h9 : l1 < n) (h10 : mi_W d 186 0 (mi_en 7 [.ref l1, .int 9, .int 0, .int 0, .int 0, .long 0]) [] (n, sl, f) (mi_Kc d 199 148 [some (.ref l1), some (.ref l2), some (.ref l3), some (.int l4), some (.int l5), o6] [] Q)) : mi_W (d + 1) 199 141 [some (.ref l1), some (.ref l2), some (.ref l3), some (.int l4), some (.int l5), o6] [] (n, sl, f) Q := by
  refine w_aload_n cd_199_141 rfl ?_
  refine w_bipush (v := 9) cd_199_142 (by decide) ?_
  refine w_iconst (v := 0) cd_199_144 (by decide) ?_
  refine w_iconst (v := 0) cd_199_145 (by decide) ?_
  refine w_iconst (v := 0) cd_199_146 (by decide) ?_
  refine w_lconst (lv := 0) cd_199_147 (by decide) ?_
  exact w_invokevirtual cd_199_148 (show mt_m 12 548 = some (186, 0) by decide +kernel) (rest := []) rfl (as := [.ref l1, .int 9, .int 0, .int 0, .int 0, .long 0]) rfl h8 (Or.inl h9) ⟨Nat.le_of_ble_eq_true rfl, Nat.le_of_ble_eq_true rfl, Nat.le_of_ble_eq_true rfl⟩ h10
theorem b_199_151 {d : Nat} {Q : (Option Value ⊕ Nat) → mi_H → Prop} (n sl : Nat) (f : Nat → mi_C) {l1 : Nat} {l2 : Nat} {l3 : Nat} {l4 : Int32} {l5 : Int32} {o6 : Option Value} {s7 : Int32} {fs8 : List Value} (h9 : f l1 = .inr (12, fs8)) (h10 : l1 < n) (h11 : mi_W d 198 0 (mi_en 8 [.ref l1, .ref l2, .ref l3, .int 3, .long 0, .int l4]) [] (n, sl, f) (mi_Kc d 199 158 [some (.ref l1), some (.ref l2), some (.ref l3), some (.int l4), some (.int l5), o6] [] Q)) : mi_W (d + 1) 199 151 [some (.ref l1), some (.ref l2), some (.ref l3), some (.int l4), some (.int l5), o6] [.int s7] (n, sl, f) Q := by
  refine w_pop_i cd_199_151 ?_
  refine w_aload_n cd_199_152 rfl ?_
  refine w_aload_n cd_199_153 rfl ?_
  refine w_aload_n cd_199_154 rfl ?_
  refine w_iconst (v := 3) cd_199_155 (by decide) ?_
  refine w_lconst (lv := 0) cd_199_156 (by decide) ?_
  refine w_iload_n cd_199_157 rfl ?_
  exact w_invokevirtual cd_199_158 (show mt_m 12 586 = some (198, 0) by decide +kernel) (rest := []) rfl (as := [.ref l1, .ref l2, .ref l3, .int 3, .long 0, .int l4]) rfl h9 (Or.inl h10) ⟨Nat.le_of_ble_eq_true rfl, Nat.le_of_ble_eq_true rfl, Nat.le_of_ble_eq_true rfl⟩ h11
theorem b_199_161 {d : Nat} {Q : (Option Value ⊕ Nat) → mi_H → Prop} (n sl : Nat) (f : Nat → mi_C) {l1 : Nat} {l2 : Nat} {l3 : Nat} {l4 : Int32} {l5 : Int32} {o6 : Option Value} {s7 : Int32} (h8 : Q (.inl (some (.int s7))) (n, sl, f)) : mi_W d 199 161 [some (.ref l1), some (.ref l2), some (.ref l3), some (.int l4), some (.int l5), o6] [.int s7] (n, sl, f) Q := by
  exact w_ireturn_i cd_199_161 (by decide +kernel) h8
/-! MarloweHostModel.step(II)J -/
set_option maxRecDepth 100000 in
theorem mq_200 : mt_q 200 = my_200 := rfl
set_option maxRecDepth 100000 in
theorem ci_200 : mt_inc 0 my_200.cd = true := by decide +kernel
theorem cd_200_0 : mt_cd 200 0 = some (.aload_n 0) := mt_cd_of (q := (0, .aload_n 0, 1)) mq_200 ci_200 (List.mem_of_getElem? (i := 0) rfl)
theorem cd_200_1 : mt_cd 200 1 = some (.iconst 0) := mt_cd_of (q := (1, .iconst 0, 1)) mq_200 ci_200 (List.mem_of_getElem? (i := 1) rfl)
theorem cd_200_2 : mt_cd 200 2 = some (.putfield 248) := mt_cd_of (q := (2, .putfield 248, 3)) mq_200 ci_200 (List.mem_of_getElem? (i := 2) rfl)
theorem cd_200_5 : mt_cd 200 5 = some (.aload_n 0) := mt_cd_of (q := (5, .aload_n 0, 1)) mq_200 ci_200 (List.mem_of_getElem? (i := 3) rfl)
theorem cd_200_6 : mt_cd 200 6 = some (.iload_n 2) := mt_cd_of (q := (6, .iload_n 2, 1)) mq_200 ci_200 (List.mem_of_getElem? (i := 4) rfl)
theorem cd_200_7 : mt_cd 200 7 = some (.i2l) := mt_cd_of (q := (7, .i2l, 1)) mq_200 ci_200 (List.mem_of_getElem? (i := 5) rfl)
theorem cd_200_8 : mt_cd 200 8 = some (.lconst 0) := mt_cd_of (q := (8, .lconst 0, 1)) mq_200 ci_200 (List.mem_of_getElem? (i := 6) rfl)
theorem cd_200_9 : mt_cd 200 9 = some (.ldc2_w 590) := mt_cd_of (q := (9, .ldc2_w 590, 3)) mq_200 ci_200 (List.mem_of_getElem? (i := 7) rfl)
theorem cd_200_12 : mt_cd 200 12 = some (.invokestatic 268) := mt_cd_of (q := (12, .invokestatic 268, 3)) mq_200 ci_200 (List.mem_of_getElem? (i := 8) rfl)
theorem cd_200_15 : mt_cd 200 15 = some (.ifCond .ne 7) := mt_cd_of (q := (15, .ifCond .ne 7, 3)) mq_200 ci_200 (List.mem_of_getElem? (i := 9) rfl)
theorem cd_200_18 : mt_cd 200 18 = some (.iconst 1) := mt_cd_of (q := (18, .iconst 1, 1)) mq_200 ci_200 (List.mem_of_getElem? (i := 10) rfl)
theorem cd_200_19 : mt_cd 200 19 = some (.goto 4) := mt_cd_of (q := (19, .goto 4, 3)) mq_200 ci_200 (List.mem_of_getElem? (i := 11) rfl)
theorem cd_200_22 : mt_cd 200 22 = some (.iconst 0) := mt_cd_of (q := (22, .iconst 0, 1)) mq_200 ci_200 (List.mem_of_getElem? (i := 12) rfl)
theorem cd_200_23 : mt_cd 200 23 = some (.iconst 1) := mt_cd_of (q := (23, .iconst 1, 1)) mq_200 ci_200 (List.mem_of_getElem? (i := 13) rfl)
theorem cd_200_24 : mt_cd 200 24 = some (.invokevirtual 254) := mt_cd_of (q := (24, .invokevirtual 254, 3)) mq_200 ci_200 (List.mem_of_getElem? (i := 14) rfl)
theorem cd_200_27 : mt_cd 200 27 = some (.ifCond .ne 32) := mt_cd_of (q := (27, .ifCond .ne 32, 3)) mq_200 ci_200 (List.mem_of_getElem? (i := 15) rfl)
theorem cd_200_30 : mt_cd 200 30 = some (.aload_n 0) := mt_cd_of (q := (30, .aload_n 0, 1)) mq_200 ci_200 (List.mem_of_getElem? (i := 16) rfl)
theorem cd_200_31 : mt_cd 200 31 = some (.iload_n 1) := mt_cd_of (q := (31, .iload_n 1, 1)) mq_200 ci_200 (List.mem_of_getElem? (i := 17) rfl)
theorem cd_200_32 : mt_cd 200 32 = some (.i2l) := mt_cd_of (q := (32, .i2l, 1)) mq_200 ci_200 (List.mem_of_getElem? (i := 18) rfl)
theorem cd_200_33 : mt_cd 200 33 = some (.lconst 0) := mt_cd_of (q := (33, .lconst 0, 1)) mq_200 ci_200 (List.mem_of_getElem? (i := 19) rfl)
theorem cd_200_34 : mt_cd 200 34 = some (.aload_n 0) := mt_cd_of (q := (34, .aload_n 0, 1)) mq_200 ci_200 (List.mem_of_getElem? (i := 20) rfl)
theorem cd_200_35 : mt_cd 200 35 = some (.getfield 565) := mt_cd_of (q := (35, .getfield 565, 3)) mq_200 ci_200 (List.mem_of_getElem? (i := 21) rfl)
theorem cd_200_38 : mt_cd 200 38 = some (.iconst 1) := mt_cd_of (q := (38, .iconst 1, 1)) mq_200 ci_200 (List.mem_of_getElem? (i := 22) rfl)
theorem cd_200_39 : mt_cd 200 39 = some (.isub) := mt_cd_of (q := (39, .isub, 1)) mq_200 ci_200 (List.mem_of_getElem? (i := 23) rfl)
theorem cd_200_40 : mt_cd 200 40 = some (.i2l) := mt_cd_of (q := (40, .i2l, 1)) mq_200 ci_200 (List.mem_of_getElem? (i := 24) rfl)
theorem cd_200_41 : mt_cd 200 41 = some (.invokestatic 268) := mt_cd_of (q := (41, .invokestatic 268, 3)) mq_200 ci_200 (List.mem_of_getElem? (i := 25) rfl)
theorem cd_200_44 : mt_cd 200 44 = some (.ifCond .ne 7) := mt_cd_of (q := (44, .ifCond .ne 7, 3)) mq_200 ci_200 (List.mem_of_getElem? (i := 26) rfl)
theorem cd_200_47 : mt_cd 200 47 = some (.iconst 1) := mt_cd_of (q := (47, .iconst 1, 1)) mq_200 ci_200 (List.mem_of_getElem? (i := 27) rfl)
theorem cd_200_48 : mt_cd 200 48 = some (.goto 4) := mt_cd_of (q := (48, .goto 4, 3)) mq_200 ci_200 (List.mem_of_getElem? (i := 28) rfl)
theorem cd_200_51 : mt_cd 200 51 = some (.iconst 0) := mt_cd_of (q := (51, .iconst 0, 1)) mq_200 ci_200 (List.mem_of_getElem? (i := 29) rfl)
theorem cd_200_52 : mt_cd 200 52 = some (.iconst 2) := mt_cd_of (q := (52, .iconst 2, 1)) mq_200 ci_200 (List.mem_of_getElem? (i := 30) rfl)
theorem cd_200_53 : mt_cd 200 53 = some (.invokevirtual 254) := mt_cd_of (q := (53, .invokevirtual 254, 3)) mq_200 ci_200 (List.mem_of_getElem? (i := 31) rfl)
theorem cd_200_56 : mt_cd 200 56 = some (.ifCond .eq 5) := mt_cd_of (q := (56, .ifCond .eq 5, 3)) mq_200 ci_200 (List.mem_of_getElem? (i := 32) rfl)
theorem cd_200_59 : mt_cd 200 59 = some (.lconst 0) := mt_cd_of (q := (59, .lconst 0, 1)) mq_200 ci_200 (List.mem_of_getElem? (i := 33) rfl)
theorem cd_200_60 : mt_cd 200 60 = some (.lreturn) := mt_cd_of (q := (60, .lreturn, 1)) mq_200 ci_200 (List.mem_of_getElem? (i := 34) rfl)
theorem cd_200_61 : mt_cd 200 61 = some (.iload_n 2) := mt_cd_of (q := (61, .iload_n 2, 1)) mq_200 ci_200 (List.mem_of_getElem? (i := 35) rfl)
theorem cd_200_62 : mt_cd 200 62 = some (.ifCond .ne 13) := mt_cd_of (q := (62, .ifCond .ne 13, 3)) mq_200 ci_200 (List.mem_of_getElem? (i := 36) rfl)
theorem cd_200_65 : mt_cd 200 65 = some (.aload_n 0) := mt_cd_of (q := (65, .aload_n 0, 1)) mq_200 ci_200 (List.mem_of_getElem? (i := 37) rfl)
theorem cd_200_66 : mt_cd 200 66 = some (.getfield 217) := mt_cd_of (q := (66, .getfield 217, 3)) mq_200 ci_200 (List.mem_of_getElem? (i := 38) rfl)
theorem cd_200_69 : mt_cd 200 69 = some (.iload_n 1) := mt_cd_of (q := (69, .iload_n 1, 1)) mq_200 ci_200 (List.mem_of_getElem? (i := 39) rfl)
theorem cd_200_70 : mt_cd 200 70 = some (.iaload) := mt_cd_of (q := (70, .iaload, 1)) mq_200 ci_200 (List.mem_of_getElem? (i := 40) rfl)
theorem cd_200_71 : mt_cd 200 71 = some (.i2l) := mt_cd_of (q := (71, .i2l, 1)) mq_200 ci_200 (List.mem_of_getElem? (i := 41) rfl)
theorem cd_200_72 : mt_cd 200 72 = some (.goto 24) := mt_cd_of (q := (72, .goto 24, 3)) mq_200 ci_200 (List.mem_of_getElem? (i := 42) rfl)
theorem cd_200_75 : mt_cd 200 75 = some (.iload_n 2) := mt_cd_of (q := (75, .iload_n 2, 1)) mq_200 ci_200 (List.mem_of_getElem? (i := 43) rfl)
theorem cd_200_76 : mt_cd 200 76 = some (.iconst 1) := mt_cd_of (q := (76, .iconst 1, 1)) mq_200 ci_200 (List.mem_of_getElem? (i := 44) rfl)
theorem cd_200_77 : mt_cd 200 77 = some (.if_icmp .ne 12) := mt_cd_of (q := (77, .if_icmp .ne 12, 3)) mq_200 ci_200 (List.mem_of_getElem? (i := 45) rfl)
theorem cd_200_80 : mt_cd 200 80 = some (.aload_n 0) := mt_cd_of (q := (80, .aload_n 0, 1)) mq_200 ci_200 (List.mem_of_getElem? (i := 46) rfl)
theorem cd_200_81 : mt_cd 200 81 = some (.getfield 226) := mt_cd_of (q := (81, .getfield 226, 3)) mq_200 ci_200 (List.mem_of_getElem? (i := 47) rfl)
theorem cd_200_84 : mt_cd 200 84 = some (.iload_n 1) := mt_cd_of (q := (84, .iload_n 1, 1)) mq_200 ci_200 (List.mem_of_getElem? (i := 48) rfl)
theorem cd_200_85 : mt_cd 200 85 = some (.laload) := mt_cd_of (q := (85, .laload, 1)) mq_200 ci_200 (List.mem_of_getElem? (i := 49) rfl)
theorem cd_200_86 : mt_cd 200 86 = some (.goto 10) := mt_cd_of (q := (86, .goto 10, 3)) mq_200 ci_200 (List.mem_of_getElem? (i := 50) rfl)
theorem cd_200_89 : mt_cd 200 89 = some (.aload_n 0) := mt_cd_of (q := (89, .aload_n 0, 1)) mq_200 ci_200 (List.mem_of_getElem? (i := 51) rfl)
theorem cd_200_90 : mt_cd 200 90 = some (.getfield 220) := mt_cd_of (q := (90, .getfield 220, 3)) mq_200 ci_200 (List.mem_of_getElem? (i := 52) rfl)
theorem cd_200_93 : mt_cd 200 93 = some (.iload_n 1) := mt_cd_of (q := (93, .iload_n 1, 1)) mq_200 ci_200 (List.mem_of_getElem? (i := 53) rfl)
theorem cd_200_94 : mt_cd 200 94 = some (.iaload) := mt_cd_of (q := (94, .iaload, 1)) mq_200 ci_200 (List.mem_of_getElem? (i := 54) rfl)
theorem cd_200_95 : mt_cd 200 95 = some (.i2l) := mt_cd_of (q := (95, .i2l, 1)) mq_200 ci_200 (List.mem_of_getElem? (i := 55) rfl)
theorem cd_200_96 : mt_cd 200 96 = some (.lreturn) := mt_cd_of (q := (96, .lreturn, 1)) mq_200 ci_200 (List.mem_of_getElem? (i := 56) rfl)
theorem b_200_0 {d : Nat} {Q : (Option Value ⊕ Nat) → mi_H → Prop} (n sl : Nat) (f : Nat → mi_C) {l1 : Nat} {l2 : Int32} {l3 : Int32} {fs4 : List Value} (h5 : f l1 = .inr (12, fs4)) (h6 : l1 < n) (h7 : 0 < fs4.length) (h8 : mi_W d 140 0 (mi_en 6 [.long ((l3 : Int32).toInt64), .long 0, .long 2]) [] (n, sl, (va_up f l1 (.inr (12, fs4.set 0 (.int 0))))) (mi_Kc d 200 12 [some (.ref l1), some (.int l2), some (.int l3)] [.ref l1] Q)) : mi_W (d + 1) 200 0 [some (.ref l1), some (.int l2), some (.int l3)] [] (n, sl, f) Q := by
  refine w_aload_n cd_200_0 rfl ?_
  refine w_iconst (v := 0) cd_200_1 (by decide) ?_
  refine w_putfield (w := .int 0) cd_200_2 (show mt_f 12 248 = some (12, 0) by decide +kernel) h5 h6 ⟨h7, rfl, Or.inl (by decide)⟩ ?_
  refine w_aload_n cd_200_5 rfl ?_
  refine w_iload_n cd_200_6 rfl ?_
  refine w_i2l cd_200_7 ?_
  refine w_lconst (lv := 0) cd_200_8 (by decide) ?_
  refine w_ldc2_w (lv := 2) cd_200_9 (by decide +kernel) ?_
  exact w_invokestatic cd_200_12 (show mt_m 12 268 = some (140, 4) by decide +kernel) (by decide) (rest := [.ref l1]) rfl (as := [.long ((l3 : Int32).toInt64), .long 0, .long 2]) rfl ⟨Nat.le_of_ble_eq_true rfl, Nat.le_of_ble_eq_true rfl, Nat.le_of_ble_eq_true rfl⟩ h8
theorem b_200_15 {d : Nat} {Q : (Option Value ⊕ Nat) → mi_H → Prop} (n sl : Nat) (f : Nat → mi_C) {l1 : Nat} {l2 : Int32} {l3 : Int32} {s4 : Int32} {s5 : Nat} (h6 : ¬ s4 = (0 : Int32) → mi_W d 200 22 [some (.ref l1), some (.int l2), some (.int l3)] [.ref s5] (n, sl, f) Q) (h7 : ¬ (¬ s4 = (0 : Int32)) → mi_W d 200 18 [some (.ref l1), some (.int l2), some (.int l3)] [.ref s5] (n, sl, f) Q) : mi_W d 200 15 [some (.ref l1), some (.int l2), some (.int l3)] [.int s4, .ref s5] (n, sl, f) Q := by
  exact w_ifne cd_200_15 (by decide) h6 h7
theorem b_200_18 {d : Nat} {Q : (Option Value ⊕ Nat) → mi_H → Prop} (n sl : Nat) (f : Nat → mi_C) {l1 : Nat} {l2 : Int32} {l3 : Int32} {s4 : Nat} (h5 : mi_W d 200 23 [some (.ref l1), some (.int l2), some (.int l3)] [.int 1, .ref s4] (n, sl, f) Q) : mi_W d 200 18 [some (.ref l1), some (.int l2), some (.int l3)] [.ref s4] (n, sl, f) Q := by
  refine w_iconst (v := 1) cd_200_18 (by decide) ?_
  exact w_goto cd_200_19 (by decide) h5
theorem b_200_22 {d : Nat} {Q : (Option Value ⊕ Nat) → mi_H → Prop} (n sl : Nat) (f : Nat → mi_C) {l1 : Nat} {l2 : Int32} {l3 : Int32} {s4 : Nat} (h5 : mi_W d 200 23 [some (.ref l1), some (.int l2), some (.int l3)] [.int 0, .ref s4] (n, sl, f) Q) : mi_W d 200 22 [some (.ref l1), some (.int l2), some (.int l3)] [.ref s4] (n, sl, f) Q := by
  refine w_iconst (v := 0) cd_200_22 (by decide) ?_
  exact h5
theorem b_200_23 {d : Nat} {Q : (Option Value ⊕ Nat) → mi_H → Prop} (n sl : Nat) (f : Nat → mi_C) {l1 : Nat} {l2 : Int32} {l3 : Int32} {s4 : Int32} {s5 : Nat} {fs6 : List Value} (h7 : f s5 = .inr (12, fs6)) (h8 : s5 < n) (h9 : mi_W d 138 0 (mi_en 3 [.ref s5, .int s4, .int 1]) [] (n, sl, f) (mi_Kc d 200 24 [some (.ref l1), some (.int l2), some (.int l3)] [] Q)) : mi_W (d + 1) 200 23 [some (.ref l1), some (.int l2), some (.int l3)] [.int s4, .ref s5] (n, sl, f) Q := by
  refine w_iconst (v := 1) cd_200_23 (by decide) ?_
  exact w_invokevirtual cd_200_24 (show mt_m 12 254 = some (138, 0) by decide +kernel) (rest := []) rfl (as := [.ref s5, .int s4, .int 1]) rfl h7 (Or.inl h8) ⟨Nat.le_of_ble_eq_true rfl, Nat.le_of_ble_eq_true rfl, Nat.le_of_ble_eq_true rfl⟩ h9
theorem b_200_27 {d : Nat} {Q : (Option Value ⊕ Nat) → mi_H → Prop} (n sl : Nat) (f : Nat → mi_C) {l1 : Nat} {l2 : Int32} {l3 : Int32} {s4 : Int32} (h5 : ¬ s4 = (0 : Int32) → mi_W d 200 59 [some (.ref l1), some (.int l2), some (.int l3)] [] (n, sl, f) Q) (h6 : ¬ (¬ s4 = (0 : Int32)) → mi_W d 200 30 [some (.ref l1), some (.int l2), some (.int l3)] [] (n, sl, f) Q) : mi_W d 200 27 [some (.ref l1), some (.int l2), some (.int l3)] [.int s4] (n, sl, f) Q := by
  exact w_ifne cd_200_27 (by decide) h5 h6
theorem b_200_30 {d : Nat} {Q : (Option Value ⊕ Nat) → mi_H → Prop} (n sl : Nat) (f : Nat → mi_C) {l1 : Nat} {l2 : Int32} {l3 : Int32} {fs4 : List Value} {x7 : Int32} (h5 : f l1 = .inr (12, fs4)) (h6 : l1 < n) (h8 : fs4[75]? = some (.int x7)) (h9 : mi_W d 140 0 (mi_en 6 [.long ((l2 : Int32).toInt64), .long 0, .long (((x7 - 1) : Int32).toInt64)]) [] (n, sl, f) (mi_Kc d 200 41 [some (.ref l1), some (.int l2), some (.int l3)] [.ref l1] Q)) : mi_W (d + 1) 200 30 [some (.ref l1), some (.int l2), some (.int l3)] [] (n, sl, f) Q := by
  refine w_aload_n cd_200_30 rfl ?_
  refine w_iload_n cd_200_31 rfl ?_
  refine w_i2l cd_200_32 ?_
  refine w_lconst (lv := 0) cd_200_33 (by decide) ?_
  refine w_aload_n cd_200_34 rfl ?_
  refine w_getfield cd_200_35 (show mt_f 12 565 = some (12, 75) by decide +kernel) h5 h6 h8 ?_
  refine w_iconst (v := 1) cd_200_38 (by decide) ?_
  refine w_isub cd_200_39 ?_
  refine w_i2l cd_200_40 ?_
  exact w_invokestatic cd_200_41 (show mt_m 12 268 = some (140, 4) by decide +kernel) (by decide) (rest := [.ref l1]) rfl (as := [.long ((l2 : Int32).toInt64), .long 0, .long (((x7 - 1) : Int32).toInt64)]) rfl ⟨Nat.le_of_ble_eq_true rfl, Nat.le_of_ble_eq_true rfl, Nat.le_of_ble_eq_true rfl⟩ h9
theorem b_200_44 {d : Nat} {Q : (Option Value ⊕ Nat) → mi_H → Prop} (n sl : Nat) (f : Nat → mi_C) {l1 : Nat} {l2 : Int32} {l3 : Int32} {s4 : Int32} {s5 : Nat} (h6 : ¬ s4 = (0 : Int32) → mi_W d 200 51 [some (.ref l1), some (.int l2), some (.int l3)] [.ref s5] (n, sl, f) Q) (h7 : ¬ (¬ s4 = (0 : Int32)) → mi_W d 200 47 [some (.ref l1), some (.int l2), some (.int l3)] [.ref s5] (n, sl, f) Q) : mi_W d 200 44 [some (.ref l1), some (.int l2), some (.int l3)] [.int s4, .ref s5] (n, sl, f) Q := by
  exact w_ifne cd_200_44 (by decide) h6 h7
theorem b_200_47 {d : Nat} {Q : (Option Value ⊕ Nat) → mi_H → Prop} (n sl : Nat) (f : Nat → mi_C) {l1 : Nat} {l2 : Int32} {l3 : Int32} {s4 : Nat} (h5 : mi_W d 200 52 [some (.ref l1), some (.int l2), some (.int l3)] [.int 1, .ref s4] (n, sl, f) Q) : mi_W d 200 47 [some (.ref l1), some (.int l2), some (.int l3)] [.ref s4] (n, sl, f) Q := by
  refine w_iconst (v := 1) cd_200_47 (by decide) ?_
  exact w_goto cd_200_48 (by decide) h5
theorem b_200_51 {d : Nat} {Q : (Option Value ⊕ Nat) → mi_H → Prop} (n sl : Nat) (f : Nat → mi_C) {l1 : Nat} {l2 : Int32} {l3 : Int32} {s4 : Nat} (h5 : mi_W d 200 52 [some (.ref l1), some (.int l2), some (.int l3)] [.int 0, .ref s4] (n, sl, f) Q) : mi_W d 200 51 [some (.ref l1), some (.int l2), some (.int l3)] [.ref s4] (n, sl, f) Q := by
  refine w_iconst (v := 0) cd_200_51 (by decide) ?_
  exact h5
theorem b_200_52 {d : Nat} {Q : (Option Value ⊕ Nat) → mi_H → Prop} (n sl : Nat) (f : Nat → mi_C) {l1 : Nat} {l2 : Int32} {l3 : Int32} {s4 : Int32} {s5 : Nat} {fs6 : List Value} (h7 : f s5 = .inr (12, fs6)) (h8 : s5 < n) (h9 : mi_W d 138 0 (mi_en 3 [.ref s5, .int s4, .int 2]) [] (n, sl, f) (mi_Kc d 200 53 [some (.ref l1), some (.int l2), some (.int l3)] [] Q)) : mi_W (d + 1) 200 52 [some (.ref l1), some (.int l2), some (.int l3)] [.int s4, .ref s5] (n, sl, f) Q := by
  refine w_iconst (v := 2) cd_200_52 (by decide) ?_
  exact w_invokevirtual cd_200_53 (show mt_m 12 254 = some (138, 0) by decide +kernel) (rest := []) rfl (as := [.ref s5, .int s4, .int 2]) rfl h7 (Or.inl h8) ⟨Nat.le_of_ble_eq_true rfl, Nat.le_of_ble_eq_true rfl, Nat.le_of_ble_eq_true rfl⟩ h9
theorem b_200_56 {d : Nat} {Q : (Option Value ⊕ Nat) → mi_H → Prop} (n sl : Nat) (f : Nat → mi_C) {l1 : Nat} {l2 : Int32} {l3 : Int32} {s4 : Int32} (h5 : s4 = (0 : Int32) → mi_W d 200 61 [some (.ref l1), some (.int l2), some (.int l3)] [] (n, sl, f) Q) (h6 : ¬ (s4 = (0 : Int32)) → mi_W d 200 59 [some (.ref l1), some (.int l2), some (.int l3)] [] (n, sl, f) Q) : mi_W d 200 56 [some (.ref l1), some (.int l2), some (.int l3)] [.int s4] (n, sl, f) Q := by
  exact w_ifeq cd_200_56 (by decide) h5 h6
theorem b_200_59 {d : Nat} {Q : (Option Value ⊕ Nat) → mi_H → Prop} (n sl : Nat) (f : Nat → mi_C) {l1 : Nat} {l2 : Int32} {l3 : Int32} (h4 : Q (.inl (some (.long 0))) (n, sl, f)) : mi_W d 200 59 [some (.ref l1), some (.int l2), some (.int l3)] [] (n, sl, f) Q := by
  refine w_lconst (lv := 0) cd_200_59 (by decide) ?_
  exact w_lreturn cd_200_60 (by decide +kernel) h4
theorem b_200_61 {d : Nat} {Q : (Option Value ⊕ Nat) → mi_H → Prop} (n sl : Nat) (f : Nat → mi_C) {l1 : Nat} {l2 : Int32} {l3 : Int32} (h4 : ¬ l3 = (0 : Int32) → mi_W d 200 75 [some (.ref l1), some (.int l2), some (.int l3)] [] (n, sl, f) Q) (h5 : ¬ (¬ l3 = (0 : Int32)) → mi_W d 200 65 [some (.ref l1), some (.int l2), some (.int l3)] [] (n, sl, f) Q) : mi_W d 200 61 [some (.ref l1), some (.int l2), some (.int l3)] [] (n, sl, f) Q := by
  refine w_iload_n cd_200_61 rfl ?_
  exact w_ifne cd_200_62 (by decide) h4 h5
theorem b_200_65 {d : Nat} {Q : (Option Value ⊕ Nat) → mi_H → Prop} (n sl : Nat) (f : Nat → mi_C) {l1 : Nat} {l2 : Int32} {l3 : Int32} {fs4 : List Value} {x7 : Nat} (m9 i9 : Nat) (g9 : Nat → Int32) (h5 : f l1 = .inr (12, fs4)) (h6 : l1 < n) (h8 : fs4[78]? = some (.ref x7)) (h10 : f x7 = .inl (0, m9, .inl g9)) (h11 : x7 < n ∨ x7 = mi_SC) (h12 : mi_ix l2 m9 i9) (h13 : mi_W d 200 96 [some (.ref l1), some (.int l2), some (.int l3)] [.long (((g9 i9) : Int32).toInt64)] (n, sl, f) Q) : mi_W d 200 65 [some (.ref l1), some (.int l2), some (.int l3)] [] (n, sl, f) Q := by
  refine w_aload_n cd_200_65 rfl ?_
  refine w_getfield cd_200_66 (show mt_f 12 217 = some (12, 78) by decide +kernel) h5 h6 h8 ?_
  refine w_iload_n cd_200_69 rfl ?_
  refine w_iaload cd_200_70 h10 h11 h12 ?_
  refine w_i2l cd_200_71 ?_
  exact w_goto cd_200_72 (by decide) h13
theorem b_200_75 {d : Nat} {Q : (Option Value ⊕ Nat) → mi_H → Prop} (n sl : Nat) (f : Nat → mi_C) {l1 : Nat} {l2 : Int32} {l3 : Int32} (h4 : ¬ l3 = 1 → mi_W d 200 89 [some (.ref l1), some (.int l2), some (.int l3)] [] (n, sl, f) Q) (h5 : ¬ (¬ l3 = 1) → mi_W d 200 80 [some (.ref l1), some (.int l2), some (.int l3)] [] (n, sl, f) Q) : mi_W d 200 75 [some (.ref l1), some (.int l2), some (.int l3)] [] (n, sl, f) Q := by
  refine w_iload_n cd_200_75 rfl ?_
  refine w_iconst (v := 1) cd_200_76 (by decide) ?_
  exact w_if_icmpne cd_200_77 (by decide) h4 h5
theorem b_200_80 {d : Nat} {Q : (Option Value ⊕ Nat) → mi_H → Prop} (n sl : Nat) (f : Nat → mi_C) {l1 : Nat} {l2 : Int32} {l3 : Int32} {fs4 : List Value} {x7 : Nat} (m9 i9 : Nat) (g9 : Nat → Int64) (h5 : f l1 = .inr (12, fs4)) (h6 : l1 < n) (h8 : fs4[81]? = some (.ref x7)) (h10 : f x7 = .inl (3, m9, .inr (.inl g9))) (h11 : x7 < n) (h12 : mi_ix l2 m9 i9) (h13 : mi_W d 200 96 [some (.ref l1), some (.int l2), some (.int l3)] [.long (g9 i9)] (n, sl, f) Q) : mi_W d 200 80 [some (.ref l1), some (.int l2), some (.int l3)] [] (n, sl, f) Q := by
  refine w_aload_n cd_200_80 rfl ?_
  refine w_getfield cd_200_81 (show mt_f 12 226 = some (12, 81) by decide +kernel) h5 h6 h8 ?_
  refine w_iload_n cd_200_84 rfl ?_
  refine w_laload cd_200_85 h10 h11 h12 ?_
  exact w_goto cd_200_86 (by decide) h13
theorem b_200_89 {d : Nat} {Q : (Option Value ⊕ Nat) → mi_H → Prop} (n sl : Nat) (f : Nat → mi_C) {l1 : Nat} {l2 : Int32} {l3 : Int32} {fs4 : List Value} {x7 : Nat} (m9 i9 : Nat) (g9 : Nat → Int32) (h5 : f l1 = .inr (12, fs4)) (h6 : l1 < n) (h8 : fs4[79]? = some (.ref x7)) (h10 : f x7 = .inl (0, m9, .inl g9)) (h11 : x7 < n ∨ x7 = mi_SC) (h12 : mi_ix l2 m9 i9) (h13 : mi_W d 200 96 [some (.ref l1), some (.int l2), some (.int l3)] [.long (((g9 i9) : Int32).toInt64)] (n, sl, f) Q) : mi_W d 200 89 [some (.ref l1), some (.int l2), some (.int l3)] [] (n, sl, f) Q := by
  refine w_aload_n cd_200_89 rfl ?_
  refine w_getfield cd_200_90 (show mt_f 12 220 = some (12, 79) by decide +kernel) h5 h6 h8 ?_
  refine w_iload_n cd_200_93 rfl ?_
  refine w_iaload cd_200_94 h10 h11 h12 ?_
  refine w_i2l cd_200_95 ?_
  exact h13
theorem b_200_96 {d : Nat} {Q : (Option Value ⊕ Nat) → mi_H → Prop} (n sl : Nat) (f : Nat → mi_C) {l1 : Nat} {l2 : Int32} {l3 : Int32} {s4 : Int64} (h5 : Q (.inl (some (.long s4))) (n, sl, f)) : mi_W d 200 96 [some (.ref l1), some (.int l2), some (.int l3)] [.long s4] (n, sl, f) Q := by
  exact w_lreturn cd_200_96 (by decide +kernel) h5
/-! MarloweHostModel.count(I)I -/
set_option maxRecDepth 100000 in
theorem mq_201 : mt_q 201 = my_201 := rfl
set_option maxRecDepth 100000 in
theorem ci_201 : mt_inc 0 my_201.cd = true := by decide +kernel
theorem cd_201_0 : mt_cd 201 0 = some (.aload_n 0) := mt_cd_of (q := (0, .aload_n 0, 1)) mq_201 ci_201 (List.mem_of_getElem? (i := 0) rfl)
theorem cd_201_1 : mt_cd 201 1 = some (.iconst 0) := mt_cd_of (q := (1, .iconst 0, 1)) mq_201 ci_201 (List.mem_of_getElem? (i := 1) rfl)
theorem cd_201_2 : mt_cd 201 2 = some (.putfield 248) := mt_cd_of (q := (2, .putfield 248, 3)) mq_201 ci_201 (List.mem_of_getElem? (i := 2) rfl)
theorem cd_201_5 : mt_cd 201 5 = some (.aload_n 0) := mt_cd_of (q := (5, .aload_n 0, 1)) mq_201 ci_201 (List.mem_of_getElem? (i := 3) rfl)
theorem cd_201_6 : mt_cd 201 6 = some (.iload_n 1) := mt_cd_of (q := (6, .iload_n 1, 1)) mq_201 ci_201 (List.mem_of_getElem? (i := 4) rfl)
theorem cd_201_7 : mt_cd 201 7 = some (.i2l) := mt_cd_of (q := (7, .i2l, 1)) mq_201 ci_201 (List.mem_of_getElem? (i := 5) rfl)
theorem cd_201_8 : mt_cd 201 8 = some (.lconst 0) := mt_cd_of (q := (8, .lconst 0, 1)) mq_201 ci_201 (List.mem_of_getElem? (i := 6) rfl)
theorem cd_201_9 : mt_cd 201 9 = some (.ldc2_w 331) := mt_cd_of (q := (9, .ldc2_w 331, 3)) mq_201 ci_201 (List.mem_of_getElem? (i := 7) rfl)
theorem cd_201_12 : mt_cd 201 12 = some (.invokestatic 268) := mt_cd_of (q := (12, .invokestatic 268, 3)) mq_201 ci_201 (List.mem_of_getElem? (i := 8) rfl)
theorem cd_201_15 : mt_cd 201 15 = some (.ifCond .ne 7) := mt_cd_of (q := (15, .ifCond .ne 7, 3)) mq_201 ci_201 (List.mem_of_getElem? (i := 9) rfl)
theorem cd_201_18 : mt_cd 201 18 = some (.iconst 1) := mt_cd_of (q := (18, .iconst 1, 1)) mq_201 ci_201 (List.mem_of_getElem? (i := 10) rfl)
theorem cd_201_19 : mt_cd 201 19 = some (.goto 4) := mt_cd_of (q := (19, .goto 4, 3)) mq_201 ci_201 (List.mem_of_getElem? (i := 11) rfl)
theorem cd_201_22 : mt_cd 201 22 = some (.iconst 0) := mt_cd_of (q := (22, .iconst 0, 1)) mq_201 ci_201 (List.mem_of_getElem? (i := 12) rfl)
theorem cd_201_23 : mt_cd 201 23 = some (.iconst 1) := mt_cd_of (q := (23, .iconst 1, 1)) mq_201 ci_201 (List.mem_of_getElem? (i := 13) rfl)
theorem cd_201_24 : mt_cd 201 24 = some (.invokevirtual 254) := mt_cd_of (q := (24, .invokevirtual 254, 3)) mq_201 ci_201 (List.mem_of_getElem? (i := 14) rfl)
theorem cd_201_27 : mt_cd 201 27 = some (.ifCond .eq 5) := mt_cd_of (q := (27, .ifCond .eq 5, 3)) mq_201 ci_201 (List.mem_of_getElem? (i := 15) rfl)
theorem cd_201_30 : mt_cd 201 30 = some (.iconst 0) := mt_cd_of (q := (30, .iconst 0, 1)) mq_201 ci_201 (List.mem_of_getElem? (i := 16) rfl)
theorem cd_201_31 : mt_cd 201 31 = some (.ireturn) := mt_cd_of (q := (31, .ireturn, 1)) mq_201 ci_201 (List.mem_of_getElem? (i := 17) rfl)
theorem cd_201_32 : mt_cd 201 32 = some (.iload_n 1) := mt_cd_of (q := (32, .iload_n 1, 1)) mq_201 ci_201 (List.mem_of_getElem? (i := 18) rfl)
theorem cd_201_33 : mt_cd 201 33 = some (.bipush 6) := mt_cd_of (q := (33, .bipush 6, 2)) mq_201 ci_201 (List.mem_of_getElem? (i := 19) rfl)
theorem cd_201_35 : mt_cd 201 35 = some (.if_icmp .ge 20) := mt_cd_of (q := (35, .if_icmp .ge 20, 3)) mq_201 ci_201 (List.mem_of_getElem? (i := 20) rfl)
theorem cd_201_38 : mt_cd 201 38 = some (.aload_n 0) := mt_cd_of (q := (38, .aload_n 0, 1)) mq_201 ci_201 (List.mem_of_getElem? (i := 21) rfl)
theorem cd_201_39 : mt_cd 201 39 = some (.getfield 13) := mt_cd_of (q := (39, .getfield 13, 3)) mq_201 ci_201 (List.mem_of_getElem? (i := 22) rfl)
theorem cd_201_42 : mt_cd 201 42 = some (.ifCond .ge 13) := mt_cd_of (q := (42, .ifCond .ge 13, 3)) mq_201 ci_201 (List.mem_of_getElem? (i := 23) rfl)
theorem cd_201_45 : mt_cd 201 45 = some (.iload_n 1) := mt_cd_of (q := (45, .iload_n 1, 1)) mq_201 ci_201 (List.mem_of_getElem? (i := 24) rfl)
theorem cd_201_46 : mt_cd 201 46 = some (.ifCond .ne 7) := mt_cd_of (q := (46, .ifCond .ne 7, 3)) mq_201 ci_201 (List.mem_of_getElem? (i := 25) rfl)
theorem cd_201_49 : mt_cd 201 49 = some (.iconst (-1)) := mt_cd_of (q := (49, .iconst (-1), 1)) mq_201 ci_201 (List.mem_of_getElem? (i := 26) rfl)
theorem cd_201_50 : mt_cd 201 50 = some (.goto 4) := mt_cd_of (q := (50, .goto 4, 3)) mq_201 ci_201 (List.mem_of_getElem? (i := 27) rfl)
theorem cd_201_53 : mt_cd 201 53 = some (.iconst 0) := mt_cd_of (q := (53, .iconst 0, 1)) mq_201 ci_201 (List.mem_of_getElem? (i := 28) rfl)
theorem cd_201_54 : mt_cd 201 54 = some (.ireturn) := mt_cd_of (q := (54, .ireturn, 1)) mq_201 ci_201 (List.mem_of_getElem? (i := 29) rfl)
theorem cd_201_55 : mt_cd 201 55 = some (.iload_n 1) := mt_cd_of (q := (55, .iload_n 1, 1)) mq_201 ci_201 (List.mem_of_getElem? (i := 30) rfl)
theorem cd_201_56 : mt_cd 201 56 = some (.tableswitch 109 0 9 #[56, 64, 69, 74, 79, 84, 89, 94, 99, 104]) := mt_cd_of (q := (56, .tableswitch 109 0 9 #[56, 64, 69, 74, 79, 84, 89, 94, 99, 104], 56)) mq_201 ci_201 (List.mem_of_getElem? (i := 31) rfl)
theorem cd_201_112 : mt_cd 201 112 = some (.aload_n 0) := mt_cd_of (q := (112, .aload_n 0, 1)) mq_201 ci_201 (List.mem_of_getElem? (i := 32) rfl)
theorem cd_201_113 : mt_cd 201 113 = some (.getfield 147) := mt_cd_of (q := (113, .getfield 147, 3)) mq_201 ci_201 (List.mem_of_getElem? (i := 33) rfl)
theorem cd_201_116 : mt_cd 201 116 = some (.getfield 496) := mt_cd_of (q := (116, .getfield 496, 3)) mq_201 ci_201 (List.mem_of_getElem? (i := 34) rfl)
theorem cd_201_119 : mt_cd 201 119 = some (.ireturn) := mt_cd_of (q := (119, .ireturn, 1)) mq_201 ci_201 (List.mem_of_getElem? (i := 35) rfl)
theorem cd_201_120 : mt_cd 201 120 = some (.aload_n 0) := mt_cd_of (q := (120, .aload_n 0, 1)) mq_201 ci_201 (List.mem_of_getElem? (i := 36) rfl)
theorem cd_201_121 : mt_cd 201 121 = some (.getfield 282) := mt_cd_of (q := (121, .getfield 282, 3)) mq_201 ci_201 (List.mem_of_getElem? (i := 37) rfl)
theorem cd_201_124 : mt_cd 201 124 = some (.ireturn) := mt_cd_of (q := (124, .ireturn, 1)) mq_201 ci_201 (List.mem_of_getElem? (i := 38) rfl)
theorem cd_201_125 : mt_cd 201 125 = some (.aload_n 0) := mt_cd_of (q := (125, .aload_n 0, 1)) mq_201 ci_201 (List.mem_of_getElem? (i := 39) rfl)
theorem cd_201_126 : mt_cd 201 126 = some (.getfield 343) := mt_cd_of (q := (126, .getfield 343, 3)) mq_201 ci_201 (List.mem_of_getElem? (i := 40) rfl)
theorem cd_201_129 : mt_cd 201 129 = some (.ireturn) := mt_cd_of (q := (129, .ireturn, 1)) mq_201 ci_201 (List.mem_of_getElem? (i := 41) rfl)
theorem cd_201_130 : mt_cd 201 130 = some (.aload_n 0) := mt_cd_of (q := (130, .aload_n 0, 1)) mq_201 ci_201 (List.mem_of_getElem? (i := 42) rfl)
theorem cd_201_131 : mt_cd 201 131 = some (.getfield 346) := mt_cd_of (q := (131, .getfield 346, 3)) mq_201 ci_201 (List.mem_of_getElem? (i := 43) rfl)
theorem cd_201_134 : mt_cd 201 134 = some (.ireturn) := mt_cd_of (q := (134, .ireturn, 1)) mq_201 ci_201 (List.mem_of_getElem? (i := 44) rfl)
theorem cd_201_135 : mt_cd 201 135 = some (.aload_n 0) := mt_cd_of (q := (135, .aload_n 0, 1)) mq_201 ci_201 (List.mem_of_getElem? (i := 45) rfl)
theorem cd_201_136 : mt_cd 201 136 = some (.getfield 349) := mt_cd_of (q := (136, .getfield 349, 3)) mq_201 ci_201 (List.mem_of_getElem? (i := 46) rfl)
theorem cd_201_139 : mt_cd 201 139 = some (.ireturn) := mt_cd_of (q := (139, .ireturn, 1)) mq_201 ci_201 (List.mem_of_getElem? (i := 47) rfl)
theorem cd_201_140 : mt_cd 201 140 = some (.aload_n 0) := mt_cd_of (q := (140, .aload_n 0, 1)) mq_201 ci_201 (List.mem_of_getElem? (i := 48) rfl)
theorem cd_201_141 : mt_cd 201 141 = some (.getfield 352) := mt_cd_of (q := (141, .getfield 352, 3)) mq_201 ci_201 (List.mem_of_getElem? (i := 49) rfl)
theorem cd_201_144 : mt_cd 201 144 = some (.ireturn) := mt_cd_of (q := (144, .ireturn, 1)) mq_201 ci_201 (List.mem_of_getElem? (i := 50) rfl)
theorem cd_201_145 : mt_cd 201 145 = some (.aload_n 0) := mt_cd_of (q := (145, .aload_n 0, 1)) mq_201 ci_201 (List.mem_of_getElem? (i := 51) rfl)
theorem cd_201_146 : mt_cd 201 146 = some (.getfield 258) := mt_cd_of (q := (146, .getfield 258, 3)) mq_201 ci_201 (List.mem_of_getElem? (i := 52) rfl)
theorem cd_201_149 : mt_cd 201 149 = some (.ireturn) := mt_cd_of (q := (149, .ireturn, 1)) mq_201 ci_201 (List.mem_of_getElem? (i := 53) rfl)
theorem cd_201_150 : mt_cd 201 150 = some (.aload_n 0) := mt_cd_of (q := (150, .aload_n 0, 1)) mq_201 ci_201 (List.mem_of_getElem? (i := 54) rfl)
theorem cd_201_151 : mt_cd 201 151 = some (.getfield 536) := mt_cd_of (q := (151, .getfield 536, 3)) mq_201 ci_201 (List.mem_of_getElem? (i := 55) rfl)
theorem cd_201_154 : mt_cd 201 154 = some (.ireturn) := mt_cd_of (q := (154, .ireturn, 1)) mq_201 ci_201 (List.mem_of_getElem? (i := 56) rfl)
theorem cd_201_155 : mt_cd 201 155 = some (.aload_n 0) := mt_cd_of (q := (155, .aload_n 0, 1)) mq_201 ci_201 (List.mem_of_getElem? (i := 57) rfl)
theorem cd_201_156 : mt_cd 201 156 = some (.getfield 539) := mt_cd_of (q := (156, .getfield 539, 3)) mq_201 ci_201 (List.mem_of_getElem? (i := 58) rfl)
theorem cd_201_159 : mt_cd 201 159 = some (.ireturn) := mt_cd_of (q := (159, .ireturn, 1)) mq_201 ci_201 (List.mem_of_getElem? (i := 59) rfl)
theorem cd_201_160 : mt_cd 201 160 = some (.aload_n 0) := mt_cd_of (q := (160, .aload_n 0, 1)) mq_201 ci_201 (List.mem_of_getElem? (i := 60) rfl)
theorem cd_201_161 : mt_cd 201 161 = some (.getfield 562) := mt_cd_of (q := (161, .getfield 562, 3)) mq_201 ci_201 (List.mem_of_getElem? (i := 61) rfl)
theorem cd_201_164 : mt_cd 201 164 = some (.ireturn) := mt_cd_of (q := (164, .ireturn, 1)) mq_201 ci_201 (List.mem_of_getElem? (i := 62) rfl)
theorem cd_201_165 : mt_cd 201 165 = some (.aload_n 0) := mt_cd_of (q := (165, .aload_n 0, 1)) mq_201 ci_201 (List.mem_of_getElem? (i := 63) rfl)
theorem cd_201_166 : mt_cd 201 166 = some (.getfield 565) := mt_cd_of (q := (166, .getfield 565, 3)) mq_201 ci_201 (List.mem_of_getElem? (i := 64) rfl)
theorem cd_201_169 : mt_cd 201 169 = some (.ireturn) := mt_cd_of (q := (169, .ireturn, 1)) mq_201 ci_201 (List.mem_of_getElem? (i := 65) rfl)
theorem b_201_0 {d : Nat} {Q : (Option Value ⊕ Nat) → mi_H → Prop} (n sl : Nat) (f : Nat → mi_C) {l1 : Nat} {l2 : Int32} {fs3 : List Value} (h4 : f l1 = .inr (12, fs3)) (h5 : l1 < n) (h6 : 0 < fs3.length) (h7 : mi_W d 140 0 (mi_en 6 [.long ((l2 : Int32).toInt64), .long 0, .long 10]) [] (n, sl, (va_up f l1 (.inr (12, fs3.set 0 (.int 0))))) (mi_Kc d 201 12 [some (.ref l1), some (.int l2)] [.ref l1] Q)) : mi_W (d + 1) 201 0 [some (.ref l1), some (.int l2)] [] (n, sl, f) Q := by
  refine w_aload_n cd_201_0 rfl ?_
  refine w_iconst (v := 0) cd_201_1 (by decide) ?_
  refine w_putfield (w := .int 0) cd_201_2 (show mt_f 12 248 = some (12, 0) by decide +kernel) h4 h5 ⟨h6, rfl, Or.inl (by decide)⟩ ?_
  refine w_aload_n cd_201_5 rfl ?_
  refine w_iload_n cd_201_6 rfl ?_
  refine w_i2l cd_201_7 ?_
  refine w_lconst (lv := 0) cd_201_8 (by decide) ?_
  refine w_ldc2_w (lv := 10) cd_201_9 (by decide +kernel) ?_
  exact w_invokestatic cd_201_12 (show mt_m 12 268 = some (140, 4) by decide +kernel) (by decide) (rest := [.ref l1]) rfl (as := [.long ((l2 : Int32).toInt64), .long 0, .long 10]) rfl ⟨Nat.le_of_ble_eq_true rfl, Nat.le_of_ble_eq_true rfl, Nat.le_of_ble_eq_true rfl⟩ h7
theorem b_201_15 {d : Nat} {Q : (Option Value ⊕ Nat) → mi_H → Prop} (n sl : Nat) (f : Nat → mi_C) {l1 : Nat} {l2 : Int32} {s3 : Int32} {s4 : Nat} (h5 : ¬ s3 = (0 : Int32) → mi_W d 201 22 [some (.ref l1), some (.int l2)] [.ref s4] (n, sl, f) Q) (h6 : ¬ (¬ s3 = (0 : Int32)) → mi_W d 201 18 [some (.ref l1), some (.int l2)] [.ref s4] (n, sl, f) Q) : mi_W d 201 15 [some (.ref l1), some (.int l2)] [.int s3, .ref s4] (n, sl, f) Q := by
  exact w_ifne cd_201_15 (by decide) h5 h6
theorem b_201_18 {d : Nat} {Q : (Option Value ⊕ Nat) → mi_H → Prop} (n sl : Nat) (f : Nat → mi_C) {l1 : Nat} {l2 : Int32} {s3 : Nat} (h4 : mi_W d 201 23 [some (.ref l1), some (.int l2)] [.int 1, .ref s3] (n, sl, f) Q) : mi_W d 201 18 [some (.ref l1), some (.int l2)] [.ref s3] (n, sl, f) Q := by
  refine w_iconst (v := 1) cd_201_18 (by decide) ?_
  exact w_goto cd_201_19 (by decide) h4
theorem b_201_22 {d : Nat} {Q : (Option Value ⊕ Nat) → mi_H → Prop} (n sl : Nat) (f : Nat → mi_C) {l1 : Nat} {l2 : Int32} {s3 : Nat} (h4 : mi_W d 201 23 [some (.ref l1), some (.int l2)] [.int 0, .ref s3] (n, sl, f) Q) : mi_W d 201 22 [some (.ref l1), some (.int l2)] [.ref s3] (n, sl, f) Q := by
  refine w_iconst (v := 0) cd_201_22 (by decide) ?_
  exact h4
theorem b_201_23 {d : Nat} {Q : (Option Value ⊕ Nat) → mi_H → Prop} (n sl : Nat) (f : Nat → mi_C) {l1 : Nat} {l2 : Int32} {s3 : Int32} {s4 : Nat} {fs5 : List Value} (h6 : f s4 = .inr (12, fs5)) (h7 : s4 < n) (h8 : mi_W d 138 0 (mi_en 3 [.ref s4, .int s3, .int 1]) [] (n, sl, f) (mi_Kc d 201 24 [some (.ref l1), some (.int l2)] [] Q)) : mi_W (d + 1) 201 23 [some (.ref l1), some (.int l2)] [.int s3, .ref s4] (n, sl, f) Q := by
  refine w_iconst (v := 1) cd_201_23 (by decide) ?_
  exact w_invokevirtual cd_201_24 (show mt_m 12 254 = some (138, 0) by decide +kernel) (rest := []) rfl (as := [.ref s4, .int s3, .int 1]) rfl h6 (Or.inl h7) ⟨Nat.le_of_ble_eq_true rfl, Nat.le_of_ble_eq_true rfl, Nat.le_of_ble_eq_true rfl⟩ h8
theorem b_201_27 {d : Nat} {Q : (Option Value ⊕ Nat) → mi_H → Prop} (n sl : Nat) (f : Nat → mi_C) {l1 : Nat} {l2 : Int32} {s3 : Int32} (h4 : s3 = (0 : Int32) → mi_W d 201 32 [some (.ref l1), some (.int l2)] [] (n, sl, f) Q) (h5 : ¬ (s3 = (0 : Int32)) → mi_W d 201 30 [some (.ref l1), some (.int l2)] [] (n, sl, f) Q) : mi_W d 201 27 [some (.ref l1), some (.int l2)] [.int s3] (n, sl, f) Q := by
  exact w_ifeq cd_201_27 (by decide) h4 h5
theorem b_201_30 {d : Nat} {Q : (Option Value ⊕ Nat) → mi_H → Prop} (n sl : Nat) (f : Nat → mi_C) {l1 : Nat} {l2 : Int32} (h3 : Q (.inl (some (.int 0))) (n, sl, f)) : mi_W d 201 30 [some (.ref l1), some (.int l2)] [] (n, sl, f) Q := by
  refine w_iconst (v := 0) cd_201_30 (by decide) ?_
  exact w_ireturn_i cd_201_31 (by decide +kernel) h3
theorem b_201_32 {d : Nat} {Q : (Option Value ⊕ Nat) → mi_H → Prop} (n sl : Nat) (f : Nat → mi_C) {l1 : Nat} {l2 : Int32} (h3 : 6 ≤ l2 → mi_W d 201 55 [some (.ref l1), some (.int l2)] [] (n, sl, f) Q) (h4 : ¬ (6 ≤ l2) → mi_W d 201 38 [some (.ref l1), some (.int l2)] [] (n, sl, f) Q) : mi_W d 201 32 [some (.ref l1), some (.int l2)] [] (n, sl, f) Q := by
  refine w_iload_n cd_201_32 rfl ?_
  refine w_bipush (v := 6) cd_201_33 (by decide) ?_
  exact w_if_icmpge cd_201_35 (by decide) h3 h4
theorem b_201_38 {d : Nat} {Q : (Option Value ⊕ Nat) → mi_H → Prop} (n sl : Nat) (f : Nat → mi_C) {l1 : Nat} {l2 : Int32} {fs3 : List Value} {x6 : Int32} (h4 : f l1 = .inr (12, fs3)) (h5 : l1 < n) (h7 : fs3[4]? = some (.int x6)) (h8 : (0 : Int32) ≤ x6 → mi_W d 201 55 [some (.ref l1), some (.int l2)] [] (n, sl, f) Q) (h9 : ¬ ((0 : Int32) ≤ x6) → mi_W d 201 45 [some (.ref l1), some (.int l2)] [] (n, sl, f) Q) : mi_W d 201 38 [some (.ref l1), some (.int l2)] [] (n, sl, f) Q := by
  refine w_aload_n cd_201_38 rfl ?_
  refine w_getfield cd_201_39 (show mt_f 12 13 = some (12, 4) by decide +kernel) h4 h5 h7 ?_
  exact w_ifge cd_201_42 (by decide) h8 h9
theorem b_201_45 {d : Nat} {Q : (Option Value ⊕ Nat) → mi_H → Prop} (n sl : Nat) (f : Nat → mi_C) {l1 : Nat} {l2 : Int32} (h3 : ¬ l2 = (0 : Int32) → mi_W d 201 53 [some (.ref l1), some (.int l2)] [] (n, sl, f) Q) (h4 : ¬ (¬ l2 = (0 : Int32)) → mi_W d 201 49 [some (.ref l1), some (.int l2)] [] (n, sl, f) Q) : mi_W d 201 45 [some (.ref l1), some (.int l2)] [] (n, sl, f) Q := by
  refine w_iload_n cd_201_45 rfl ?_
  exact w_ifne cd_201_46 (by decide) h3 h4
theorem b_201_49 {d : Nat} {Q : (Option Value ⊕ Nat) → mi_H → Prop} (n sl : Nat) (f : Nat → mi_C) {l1 : Nat} {l2 : Int32} (h3 : mi_W d 201 54 [some (.ref l1), some (.int l2)] [.int (-1)] (n, sl, f) Q) : mi_W d 201 49 [some (.ref l1), some (.int l2)] [] (n, sl, f) Q := by
  refine w_iconst (v := (-1)) cd_201_49 (by decide) ?_
  exact w_goto cd_201_50 (by decide) h3
theorem b_201_53 {d : Nat} {Q : (Option Value ⊕ Nat) → mi_H → Prop} (n sl : Nat) (f : Nat → mi_C) {l1 : Nat} {l2 : Int32} (h3 : mi_W d 201 54 [some (.ref l1), some (.int l2)] [.int 0] (n, sl, f) Q) : mi_W d 201 53 [some (.ref l1), some (.int l2)] [] (n, sl, f) Q := by
  refine w_iconst (v := 0) cd_201_53 (by decide) ?_
  exact h3
theorem b_201_54 {d : Nat} {Q : (Option Value ⊕ Nat) → mi_H → Prop} (n sl : Nat) (f : Nat → mi_C) {l1 : Nat} {l2 : Int32} {s3 : Int32} (h4 : Q (.inl (some (.int s3))) (n, sl, f)) : mi_W d 201 54 [some (.ref l1), some (.int l2)] [.int s3] (n, sl, f) Q := by
  exact w_ireturn_i cd_201_54 (by decide +kernel) h4
theorem b_201_55 {d : Nat} {Q : (Option Value ⊕ Nat) → mi_H → Prop} (n sl : Nat) (f : Nat → mi_C) {l1 : Nat} {l2 : Int32} {t3 : Nat} (h4 : mi_ts 56 109 0 9 #[56, 64, 69, 74, 79, 84, 89, 94, 99, 104] (l2 : Int32).toInt = some t3) (h5 : mi_W d 201 t3 [some (.ref l1), some (.int l2)] [] (n, sl, f) Q) : mi_W d 201 55 [some (.ref l1), some (.int l2)] [] (n, sl, f) Q := by
  refine w_iload_n cd_201_55 rfl ?_
  exact w_tableswitch cd_201_56 h4 h5
theorem b_201_112 {d : Nat} {Q : (Option Value ⊕ Nat) → mi_H → Prop} (n sl : Nat) (f : Nat → mi_C) {l1 : Nat} {l2 : Int32} {fs3 : List Value} {x6 : Nat} {fs8 : List Value} {x11 : Int32} (h4 : f l1 = .inr (12, fs3)) (h5 : l1 < n) (h7 : fs3[41]? = some (.ref x6)) (h9 : f x6 = .inr (13, fs8)) (h10 : x6 < n) (h12 : fs8[0]? = some (.int x11)) (h13 : Q (.inl (some (.int x11))) (n, sl, f)) : mi_W d 201 112 [some (.ref l1), some (.int l2)] [] (n, sl, f) Q := by
  refine w_aload_n cd_201_112 rfl ?_
  refine w_getfield cd_201_113 (show mt_f 12 147 = some (12, 41) by decide +kernel) h4 h5 h7 ?_
  refine w_getfield cd_201_116 (show mt_f 12 496 = some (13, 0) by decide +kernel) h9 h10 h12 ?_
  exact w_ireturn_i cd_201_119 (by decide +kernel) h13
theorem b_201_120 {d : Nat} {Q : (Option Value ⊕ Nat) → mi_H → Prop} (n sl : Nat) (f : Nat → mi_C) {l1 : Nat} {l2 : Int32} {fs3 : List Value} {x6 : Int32} (h4 : f l1 = .inr (12, fs3)) (h5 : l1 < n) (h7 : fs3[21]? = some (.int x6)) (h8 : Q (.inl (some (.int x6))) (n, sl, f)) : mi_W d 201 120 [some (.ref l1), some (.int l2)] [] (n, sl, f) Q := by
  refine w_aload_n cd_201_120 rfl ?_
  refine w_getfield cd_201_121 (show mt_f 12 282 = some (12, 21) by decide +kernel) h4 h5 h7 ?_
  exact w_ireturn_i cd_201_124 (by decide +kernel) h8
theorem b_201_125 {d : Nat} {Q : (Option Value ⊕ Nat) → mi_H → Prop} (n sl : Nat) (f : Nat → mi_C) {l1 : Nat} {l2 : Int32} {fs3 : List Value} {x6 : Int32} (h4 : f l1 = .inr (12, fs3)) (h5 : l1 < n) (h7 : fs3[24]? = some (.int x6)) (h8 : Q (.inl (some (.int x6))) (n, sl, f)) : mi_W d 201 125 [some (.ref l1), some (.int l2)] [] (n, sl, f) Q := by
  refine w_aload_n cd_201_125 rfl ?_
  refine w_getfield cd_201_126 (show mt_f 12 343 = some (12, 24) by decide +kernel) h4 h5 h7 ?_
  exact w_ireturn_i cd_201_129 (by decide +kernel) h8
theorem b_201_130 {d : Nat} {Q : (Option Value ⊕ Nat) → mi_H → Prop} (n sl : Nat) (f : Nat → mi_C) {l1 : Nat} {l2 : Int32} {fs3 : List Value} {x6 : Int32} (h4 : f l1 = .inr (12, fs3)) (h5 : l1 < n) (h7 : fs3[25]? = some (.int x6)) (h8 : Q (.inl (some (.int x6))) (n, sl, f)) : mi_W d 201 130 [some (.ref l1), some (.int l2)] [] (n, sl, f) Q := by
  refine w_aload_n cd_201_130 rfl ?_
  refine w_getfield cd_201_131 (show mt_f 12 346 = some (12, 25) by decide +kernel) h4 h5 h7 ?_
  exact w_ireturn_i cd_201_134 (by decide +kernel) h8
theorem b_201_135 {d : Nat} {Q : (Option Value ⊕ Nat) → mi_H → Prop} (n sl : Nat) (f : Nat → mi_C) {l1 : Nat} {l2 : Int32} {fs3 : List Value} {x6 : Int32} (h4 : f l1 = .inr (12, fs3)) (h5 : l1 < n) (h7 : fs3[26]? = some (.int x6)) (h8 : Q (.inl (some (.int x6))) (n, sl, f)) : mi_W d 201 135 [some (.ref l1), some (.int l2)] [] (n, sl, f) Q := by
  refine w_aload_n cd_201_135 rfl ?_
  refine w_getfield cd_201_136 (show mt_f 12 349 = some (12, 26) by decide +kernel) h4 h5 h7 ?_
  exact w_ireturn_i cd_201_139 (by decide +kernel) h8
theorem b_201_140 {d : Nat} {Q : (Option Value ⊕ Nat) → mi_H → Prop} (n sl : Nat) (f : Nat → mi_C) {l1 : Nat} {l2 : Int32} {fs3 : List Value} {x6 : Int32} (h4 : f l1 = .inr (12, fs3)) (h5 : l1 < n) (h7 : fs3[27]? = some (.int x6)) (h8 : Q (.inl (some (.int x6))) (n, sl, f)) : mi_W d 201 140 [some (.ref l1), some (.int l2)] [] (n, sl, f) Q := by
  refine w_aload_n cd_201_140 rfl ?_
  refine w_getfield cd_201_141 (show mt_f 12 352 = some (12, 27) by decide +kernel) h4 h5 h7 ?_
  exact w_ireturn_i cd_201_144 (by decide +kernel) h8
theorem b_201_145 {d : Nat} {Q : (Option Value ⊕ Nat) → mi_H → Prop} (n sl : Nat) (f : Nat → mi_C) {l1 : Nat} {l2 : Int32} {fs3 : List Value} {x6 : Int32} (h4 : f l1 = .inr (12, fs3)) (h5 : l1 < n) (h7 : fs3[59]? = some (.int x6)) (h8 : Q (.inl (some (.int x6))) (n, sl, f)) : mi_W d 201 145 [some (.ref l1), some (.int l2)] [] (n, sl, f) Q := by
  refine w_aload_n cd_201_145 rfl ?_
  refine w_getfield cd_201_146 (show mt_f 12 258 = some (12, 59) by decide +kernel) h4 h5 h7 ?_
  exact w_ireturn_i cd_201_149 (by decide +kernel) h8
theorem b_201_150 {d : Nat} {Q : (Option Value ⊕ Nat) → mi_H → Prop} (n sl : Nat) (f : Nat → mi_C) {l1 : Nat} {l2 : Int32} {fs3 : List Value} {x6 : Int32} (h4 : f l1 = .inr (12, fs3)) (h5 : l1 < n) (h7 : fs3[65]? = some (.int x6)) (h8 : Q (.inl (some (.int x6))) (n, sl, f)) : mi_W d 201 150 [some (.ref l1), some (.int l2)] [] (n, sl, f) Q := by
  refine w_aload_n cd_201_150 rfl ?_
  refine w_getfield cd_201_151 (show mt_f 12 536 = some (12, 65) by decide +kernel) h4 h5 h7 ?_
  exact w_ireturn_i cd_201_154 (by decide +kernel) h8
theorem b_201_155 {d : Nat} {Q : (Option Value ⊕ Nat) → mi_H → Prop} (n sl : Nat) (f : Nat → mi_C) {l1 : Nat} {l2 : Int32} {fs3 : List Value} {x6 : Int32} (h4 : f l1 = .inr (12, fs3)) (h5 : l1 < n) (h7 : fs3[66]? = some (.int x6)) (h8 : Q (.inl (some (.int x6))) (n, sl, f)) : mi_W d 201 155 [some (.ref l1), some (.int l2)] [] (n, sl, f) Q := by
  refine w_aload_n cd_201_155 rfl ?_
  refine w_getfield cd_201_156 (show mt_f 12 539 = some (12, 66) by decide +kernel) h4 h5 h7 ?_
  exact w_ireturn_i cd_201_159 (by decide +kernel) h8
theorem b_201_160 {d : Nat} {Q : (Option Value ⊕ Nat) → mi_H → Prop} (n sl : Nat) (f : Nat → mi_C) {l1 : Nat} {l2 : Int32} {fs3 : List Value} {x6 : Int32} (h4 : f l1 = .inr (12, fs3)) (h5 : l1 < n) (h7 : fs3[73]? = some (.int x6)) (h8 : Q (.inl (some (.int x6))) (n, sl, f)) : mi_W d 201 160 [some (.ref l1), some (.int l2)] [] (n, sl, f) Q := by
  refine w_aload_n cd_201_160 rfl ?_
  refine w_getfield cd_201_161 (show mt_f 12 562 = some (12, 73) by decide +kernel) h4 h5 h7 ?_
  exact w_ireturn_i cd_201_164 (by decide +kernel) h8
theorem b_201_165 {d : Nat} {Q : (Option Value ⊕ Nat) → mi_H → Prop} (n sl : Nat) (f : Nat → mi_C) {l1 : Nat} {l2 : Int32} {fs3 : List Value} {x6 : Int32} (h4 : f l1 = .inr (12, fs3)) (h5 : l1 < n) (h7 : fs3[75]? = some (.int x6)) (h8 : Q (.inl (some (.int x6))) (n, sl, f)) : mi_W d 201 165 [some (.ref l1), some (.int l2)] [] (n, sl, f) Q := by
  refine w_aload_n cd_201_165 rfl ?_
  refine w_getfield cd_201_166 (show mt_f 12 565 = some (12, 75) by decide +kernel) h4 h5 h7 ?_
  exact w_ireturn_i cd_201_169 (by decide +kernel) h8
/-! MarloweHostLaw.law([I)Z -/
set_option maxRecDepth 100000 in
theorem mq_202 : mt_q 202 = my_202 := rfl
set_option maxRecDepth 100000 in
theorem ci_202 : mt_inc 0 my_202.cd = true := by decide +kernel
theorem cd_202_0 : mt_cd 202 0 = some (.new 8) := mt_cd_of (q := (0, .new 8, 3)) mq_202 ci_202 (List.mem_append_left _ (show _ ∈ my_202_0 from List.mem_of_getElem? (i := 0) rfl))
theorem cd_202_3 : mt_cd 202 3 = some (.dup) := mt_cd_of (q := (3, .dup, 1)) mq_202 ci_202 (List.mem_append_left _ (show _ ∈ my_202_0 from List.mem_of_getElem? (i := 1) rfl))
theorem cd_202_4 : mt_cd 202 4 = some (.invokespecial 65) := mt_cd_of (q := (4, .invokespecial 65, 3)) mq_202 ci_202 (List.mem_append_left _ (show _ ∈ my_202_0 from List.mem_of_getElem? (i := 2) rfl))
theorem cd_202_7 : mt_cd 202 7 = some (.astore_n 1) := mt_cd_of (q := (7, .astore_n 1, 1)) mq_202 ci_202 (List.mem_append_left _ (show _ ∈ my_202_0 from List.mem_of_getElem? (i := 3) rfl))
theorem cd_202_8 : mt_cd 202 8 = some (.new 66) := mt_cd_of (q := (8, .new 66, 3)) mq_202 ci_202 (List.mem_append_left _ (show _ ∈ my_202_0 from List.mem_of_getElem? (i := 4) rfl))
theorem cd_202_11 : mt_cd 202 11 = some (.dup) := mt_cd_of (q := (11, .dup, 1)) mq_202 ci_202 (List.mem_append_left _ (show _ ∈ my_202_0 from List.mem_of_getElem? (i := 5) rfl))
theorem cd_202_12 : mt_cd 202 12 = some (.invokespecial 68) := mt_cd_of (q := (12, .invokespecial 68, 3)) mq_202 ci_202 (List.mem_append_left _ (show _ ∈ my_202_0 from List.mem_of_getElem? (i := 6) rfl))
theorem cd_202_15 : mt_cd 202 15 = some (.astore_n 2) := mt_cd_of (q := (15, .astore_n 2, 1)) mq_202 ci_202 (List.mem_append_left _ (show _ ∈ my_202_0 from List.mem_of_getElem? (i := 7) rfl))
theorem cd_202_16 : mt_cd 202 16 = some (.iconst 1) := mt_cd_of (q := (16, .iconst 1, 1)) mq_202 ci_202 (List.mem_append_left _ (show _ ∈ my_202_0 from List.mem_of_getElem? (i := 8) rfl))
theorem cd_202_17 : mt_cd 202 17 = some (.newarray .long) := mt_cd_of (q := (17, .newarray .long, 2)) mq_202 ci_202 (List.mem_append_left _ (show _ ∈ my_202_0 from List.mem_of_getElem? (i := 9) rfl))
theorem cd_202_19 : mt_cd 202 19 = some (.astore_n 3) := mt_cd_of (q := (19, .astore_n 3, 1)) mq_202 ci_202 (List.mem_append_left _ (show _ ∈ my_202_0 from List.mem_of_getElem? (i := 10) rfl))
theorem cd_202_20 : mt_cd 202 20 = some (.iconst 0) := mt_cd_of (q := (20, .iconst 0, 1)) mq_202 ci_202 (List.mem_append_left _ (show _ ∈ my_202_0 from List.mem_of_getElem? (i := 11) rfl))
theorem cd_202_21 : mt_cd 202 21 = some (.istore 4) := mt_cd_of (q := (21, .istore 4, 2)) mq_202 ci_202 (List.mem_append_left _ (show _ ∈ my_202_0 from List.mem_of_getElem? (i := 12) rfl))
theorem cd_202_23 : mt_cd 202 23 = some (.iload 4) := mt_cd_of (q := (23, .iload 4, 2)) mq_202 ci_202 (List.mem_append_left _ (show _ ∈ my_202_0 from List.mem_of_getElem? (i := 13) rfl))
theorem cd_202_25 : mt_cd 202 25 = some (.aload_n 0) := mt_cd_of (q := (25, .aload_n 0, 1)) mq_202 ci_202 (List.mem_append_left _ (show _ ∈ my_202_0 from List.mem_of_getElem? (i := 14) rfl))
theorem cd_202_26 : mt_cd 202 26 = some (.arraylength) := mt_cd_of (q := (26, .arraylength, 1)) mq_202 ci_202 (List.mem_append_left _ (show _ ∈ my_202_0 from List.mem_of_getElem? (i := 15) rfl))
theorem cd_202_27 : mt_cd 202 27 = some (.bipush 6) := mt_cd_of (q := (27, .bipush 6, 2)) mq_202 ci_202 (List.mem_append_left _ (show _ ∈ my_202_0 from List.mem_of_getElem? (i := 16) rfl))
theorem cd_202_29 : mt_cd 202 29 = some (.isub) := mt_cd_of (q := (29, .isub, 1)) mq_202 ci_202 (List.mem_append_left _ (show _ ∈ my_202_0 from List.mem_of_getElem? (i := 17) rfl))
theorem cd_202_30 : mt_cd 202 30 = some (.if_icmp .gt 1141) := mt_cd_of (q := (30, .if_icmp .gt 1141, 3)) mq_202 ci_202 (List.mem_append_left _ (show _ ∈ my_202_0 from List.mem_of_getElem? (i := 18) rfl))
theorem cd_202_33 : mt_cd 202 33 = some (.aload_n 0) := mt_cd_of (q := (33, .aload_n 0, 1)) mq_202 ci_202 (List.mem_append_left _ (show _ ∈ my_202_0 from List.mem_of_getElem? (i := 19) rfl))
theorem cd_202_34 : mt_cd 202 34 = some (.iload 4) := mt_cd_of (q := (34, .iload 4, 2)) mq_202 ci_202 (List.mem_append_left _ (show _ ∈ my_202_0 from List.mem_of_getElem? (i := 20) rfl))
theorem cd_202_36 : mt_cd 202 36 = some (.iaload) := mt_cd_of (q := (36, .iaload, 1)) mq_202 ci_202 (List.mem_append_left _ (show _ ∈ my_202_0 from List.mem_of_getElem? (i := 21) rfl))
theorem cd_202_37 : mt_cd 202 37 = some (.bipush 15) := mt_cd_of (q := (37, .bipush 15, 2)) mq_202 ci_202 (List.mem_append_left _ (show _ ∈ my_202_0 from List.mem_of_getElem? (i := 22) rfl))
theorem cd_202_39 : mt_cd 202 39 = some (.iand) := mt_cd_of (q := (39, .iand, 1)) mq_202 ci_202 (List.mem_append_left _ (show _ ∈ my_202_0 from List.mem_of_getElem? (i := 23) rfl))
theorem cd_202_40 : mt_cd 202 40 = some (.tableswitch 1125 0 13 #[72, 176, 232, 245, 356, 480, 580, 624, 756, 824, 879, 958, 1002, 1069]) := mt_cd_of (q := (40, .tableswitch 1125 0 13 #[72, 176, 232, 245, 356, 480, 580, 624, 756, 824, 879, 958, 1002, 1069], 72)) mq_202 ci_202 (List.mem_append_left _ (show _ ∈ my_202_0 from List.mem_of_getElem? (i := 24) rfl))
theorem cd_202_112 : mt_cd 202 112 = some (.aload_n 1) := mt_cd_of (q := (112, .aload_n 1, 1)) mq_202 ci_202 (List.mem_append_left _ (show _ ∈ my_202_0 from List.mem_of_getElem? (i := 25) rfl))
theorem cd_202_113 : mt_cd 202 113 = some (.aload_n 0) := mt_cd_of (q := (113, .aload_n 0, 1)) mq_202 ci_202 (List.mem_append_left _ (show _ ∈ my_202_0 from List.mem_of_getElem? (i := 26) rfl))
theorem cd_202_114 : mt_cd 202 114 = some (.iload 4) := mt_cd_of (q := (114, .iload 4, 2)) mq_202 ci_202 (List.mem_append_left _ (show _ ∈ my_202_0 from List.mem_of_getElem? (i := 27) rfl))
theorem cd_202_116 : mt_cd 202 116 = some (.iconst 1) := mt_cd_of (q := (116, .iconst 1, 1)) mq_202 ci_202 (List.mem_append_left _ (show _ ∈ my_202_0 from List.mem_of_getElem? (i := 28) rfl))
theorem cd_202_117 : mt_cd 202 117 = some (.iadd) := mt_cd_of (q := (117, .iadd, 1)) mq_202 ci_202 (List.mem_append_left _ (show _ ∈ my_202_0 from List.mem_of_getElem? (i := 29) rfl))
theorem cd_202_118 : mt_cd 202 118 = some (.iaload) := mt_cd_of (q := (118, .iaload, 1)) mq_202 ci_202 (List.mem_append_left _ (show _ ∈ my_202_0 from List.mem_of_getElem? (i := 30) rfl))
theorem cd_202_119 : mt_cd 202 119 = some (.aload_n 0) := mt_cd_of (q := (119, .aload_n 0, 1)) mq_202 ci_202 (List.mem_append_left _ (show _ ∈ my_202_0 from List.mem_of_getElem? (i := 31) rfl))
theorem cd_202_120 : mt_cd 202 120 = some (.iload 4) := mt_cd_of (q := (120, .iload 4, 2)) mq_202 ci_202 (List.mem_append_left _ (show _ ∈ my_202_0 from List.mem_of_getElem? (i := 32) rfl))
theorem cd_202_122 : mt_cd 202 122 = some (.iconst 2) := mt_cd_of (q := (122, .iconst 2, 1)) mq_202 ci_202 (List.mem_append_left _ (show _ ∈ my_202_0 from List.mem_of_getElem? (i := 33) rfl))
theorem cd_202_123 : mt_cd 202 123 = some (.iadd) := mt_cd_of (q := (123, .iadd, 1)) mq_202 ci_202 (List.mem_append_left _ (show _ ∈ my_202_0 from List.mem_of_getElem? (i := 34) rfl))
theorem cd_202_124 : mt_cd 202 124 = some (.iaload) := mt_cd_of (q := (124, .iaload, 1)) mq_202 ci_202 (List.mem_append_left _ (show _ ∈ my_202_0 from List.mem_of_getElem? (i := 35) rfl))
theorem cd_202_125 : mt_cd 202 125 = some (.aload_n 0) := mt_cd_of (q := (125, .aload_n 0, 1)) mq_202 ci_202 (List.mem_append_left _ (show _ ∈ my_202_0 from List.mem_of_getElem? (i := 36) rfl))
theorem cd_202_126 : mt_cd 202 126 = some (.iload 4) := mt_cd_of (q := (126, .iload 4, 2)) mq_202 ci_202 (List.mem_append_left _ (show _ ∈ my_202_0 from List.mem_of_getElem? (i := 37) rfl))
theorem cd_202_128 : mt_cd 202 128 = some (.iconst 3) := mt_cd_of (q := (128, .iconst 3, 1)) mq_202 ci_202 (List.mem_append_left _ (show _ ∈ my_202_0 from List.mem_of_getElem? (i := 38) rfl))
theorem cd_202_129 : mt_cd 202 129 = some (.iadd) := mt_cd_of (q := (129, .iadd, 1)) mq_202 ci_202 (List.mem_append_left _ (show _ ∈ my_202_0 from List.mem_of_getElem? (i := 39) rfl))
theorem cd_202_130 : mt_cd 202 130 = some (.iaload) := mt_cd_of (q := (130, .iaload, 1)) mq_202 ci_202 (List.mem_append_left _ (show _ ∈ my_202_0 from List.mem_of_getElem? (i := 40) rfl))
theorem cd_202_131 : mt_cd 202 131 = some (.aload_n 0) := mt_cd_of (q := (131, .aload_n 0, 1)) mq_202 ci_202 (List.mem_append_left _ (show _ ∈ my_202_0 from List.mem_of_getElem? (i := 41) rfl))
theorem cd_202_132 : mt_cd 202 132 = some (.iload 4) := mt_cd_of (q := (132, .iload 4, 2)) mq_202 ci_202 (List.mem_append_left _ (show _ ∈ my_202_0 from List.mem_of_getElem? (i := 42) rfl))
theorem cd_202_134 : mt_cd 202 134 = some (.iconst 4) := mt_cd_of (q := (134, .iconst 4, 1)) mq_202 ci_202 (List.mem_append_left _ (show _ ∈ my_202_0 from List.mem_of_getElem? (i := 43) rfl))
theorem cd_202_135 : mt_cd 202 135 = some (.iadd) := mt_cd_of (q := (135, .iadd, 1)) mq_202 ci_202 (List.mem_append_left _ (show _ ∈ my_202_0 from List.mem_of_getElem? (i := 44) rfl))
theorem cd_202_136 : mt_cd 202 136 = some (.iaload) := mt_cd_of (q := (136, .iaload, 1)) mq_202 ci_202 (List.mem_append_left _ (show _ ∈ my_202_0 from List.mem_of_getElem? (i := 45) rfl))
theorem cd_202_137 : mt_cd 202 137 = some (.aload_n 0) := mt_cd_of (q := (137, .aload_n 0, 1)) mq_202 ci_202 (List.mem_append_left _ (show _ ∈ my_202_0 from List.mem_of_getElem? (i := 46) rfl))
theorem cd_202_138 : mt_cd 202 138 = some (.iload 4) := mt_cd_of (q := (138, .iload 4, 2)) mq_202 ci_202 (List.mem_append_left _ (show _ ∈ my_202_0 from List.mem_of_getElem? (i := 47) rfl))
theorem cd_202_140 : mt_cd 202 140 = some (.iconst 5) := mt_cd_of (q := (140, .iconst 5, 1)) mq_202 ci_202 (List.mem_append_left _ (show _ ∈ my_202_0 from List.mem_of_getElem? (i := 48) rfl))
theorem cd_202_141 : mt_cd 202 141 = some (.iadd) := mt_cd_of (q := (141, .iadd, 1)) mq_202 ci_202 (List.mem_append_left _ (show _ ∈ my_202_0 from List.mem_of_getElem? (i := 49) rfl))
theorem cd_202_142 : mt_cd 202 142 = some (.iaload) := mt_cd_of (q := (142, .iaload, 1)) mq_202 ci_202 (List.mem_append_left _ (show _ ∈ my_202_0 from List.mem_of_getElem? (i := 50) rfl))
theorem cd_202_143 : mt_cd 202 143 = some (.aload_n 3) := mt_cd_of (q := (143, .aload_n 3, 1)) mq_202 ci_202 (List.mem_append_left _ (show _ ∈ my_202_0 from List.mem_of_getElem? (i := 51) rfl))
theorem cd_202_144 : mt_cd 202 144 = some (.invokestatic 69) := mt_cd_of (q := (144, .invokestatic 69, 3)) mq_202 ci_202 (List.mem_append_left _ (show _ ∈ my_202_0 from List.mem_of_getElem? (i := 52) rfl))
theorem cd_202_147 : mt_cd 202 147 = some (.istore 5) := mt_cd_of (q := (147, .istore 5, 2)) mq_202 ci_202 (List.mem_append_left _ (show _ ∈ my_202_0 from List.mem_of_getElem? (i := 53) rfl))
theorem cd_202_149 : mt_cd 202 149 = some (.aload_n 2) := mt_cd_of (q := (149, .aload_n 2, 1)) mq_202 ci_202 (List.mem_append_left _ (show _ ∈ my_202_0 from List.mem_of_getElem? (i := 54) rfl))
theorem cd_202_150 : mt_cd 202 150 = some (.aload_n 0) := mt_cd_of (q := (150, .aload_n 0, 1)) mq_202 ci_202 (List.mem_append_left _ (show _ ∈ my_202_0 from List.mem_of_getElem? (i := 55) rfl))
theorem cd_202_151 : mt_cd 202 151 = some (.iload 4) := mt_cd_of (q := (151, .iload 4, 2)) mq_202 ci_202 (List.mem_append_left _ (show _ ∈ my_202_0 from List.mem_of_getElem? (i := 56) rfl))
theorem cd_202_153 : mt_cd 202 153 = some (.iconst 1) := mt_cd_of (q := (153, .iconst 1, 1)) mq_202 ci_202 (List.mem_append_left _ (show _ ∈ my_202_0 from List.mem_of_getElem? (i := 57) rfl))
theorem cd_202_154 : mt_cd 202 154 = some (.iadd) := mt_cd_of (q := (154, .iadd, 1)) mq_202 ci_202 (List.mem_append_left _ (show _ ∈ my_202_0 from List.mem_of_getElem? (i := 58) rfl))
theorem cd_202_155 : mt_cd 202 155 = some (.iaload) := mt_cd_of (q := (155, .iaload, 1)) mq_202 ci_202 (List.mem_append_left _ (show _ ∈ my_202_0 from List.mem_of_getElem? (i := 59) rfl))
theorem cd_202_156 : mt_cd 202 156 = some (.aload_n 0) := mt_cd_of (q := (156, .aload_n 0, 1)) mq_202 ci_202 (List.mem_append_right _ (List.mem_append_left _ (show _ ∈ my_202_1 from List.mem_of_getElem? (i := 0) rfl)))
theorem cd_202_157 : mt_cd 202 157 = some (.iload 4) := mt_cd_of (q := (157, .iload 4, 2)) mq_202 ci_202 (List.mem_append_right _ (List.mem_append_left _ (show _ ∈ my_202_1 from List.mem_of_getElem? (i := 1) rfl)))
theorem cd_202_159 : mt_cd 202 159 = some (.iconst 2) := mt_cd_of (q := (159, .iconst 2, 1)) mq_202 ci_202 (List.mem_append_right _ (List.mem_append_left _ (show _ ∈ my_202_1 from List.mem_of_getElem? (i := 2) rfl)))
theorem cd_202_160 : mt_cd 202 160 = some (.iadd) := mt_cd_of (q := (160, .iadd, 1)) mq_202 ci_202 (List.mem_append_right _ (List.mem_append_left _ (show _ ∈ my_202_1 from List.mem_of_getElem? (i := 3) rfl)))
theorem cd_202_161 : mt_cd 202 161 = some (.iaload) := mt_cd_of (q := (161, .iaload, 1)) mq_202 ci_202 (List.mem_append_right _ (List.mem_append_left _ (show _ ∈ my_202_1 from List.mem_of_getElem? (i := 4) rfl)))
theorem cd_202_162 : mt_cd 202 162 = some (.aload_n 0) := mt_cd_of (q := (162, .aload_n 0, 1)) mq_202 ci_202 (List.mem_append_right _ (List.mem_append_left _ (show _ ∈ my_202_1 from List.mem_of_getElem? (i := 5) rfl)))
theorem cd_202_163 : mt_cd 202 163 = some (.iload 4) := mt_cd_of (q := (163, .iload 4, 2)) mq_202 ci_202 (List.mem_append_right _ (List.mem_append_left _ (show _ ∈ my_202_1 from List.mem_of_getElem? (i := 6) rfl)))
theorem cd_202_165 : mt_cd 202 165 = some (.iconst 3) := mt_cd_of (q := (165, .iconst 3, 1)) mq_202 ci_202 (List.mem_append_right _ (List.mem_append_left _ (show _ ∈ my_202_1 from List.mem_of_getElem? (i := 7) rfl)))
theorem cd_202_166 : mt_cd 202 166 = some (.iadd) := mt_cd_of (q := (166, .iadd, 1)) mq_202 ci_202 (List.mem_append_right _ (List.mem_append_left _ (show _ ∈ my_202_1 from List.mem_of_getElem? (i := 8) rfl)))
theorem cd_202_167 : mt_cd 202 167 = some (.iaload) := mt_cd_of (q := (167, .iaload, 1)) mq_202 ci_202 (List.mem_append_right _ (List.mem_append_left _ (show _ ∈ my_202_1 from List.mem_of_getElem? (i := 9) rfl)))
theorem cd_202_168 : mt_cd 202 168 = some (.aload_n 0) := mt_cd_of (q := (168, .aload_n 0, 1)) mq_202 ci_202 (List.mem_append_right _ (List.mem_append_left _ (show _ ∈ my_202_1 from List.mem_of_getElem? (i := 10) rfl)))
theorem cd_202_169 : mt_cd 202 169 = some (.iload 4) := mt_cd_of (q := (169, .iload 4, 2)) mq_202 ci_202 (List.mem_append_right _ (List.mem_append_left _ (show _ ∈ my_202_1 from List.mem_of_getElem? (i := 11) rfl)))
theorem cd_202_171 : mt_cd 202 171 = some (.iconst 4) := mt_cd_of (q := (171, .iconst 4, 1)) mq_202 ci_202 (List.mem_append_right _ (List.mem_append_left _ (show _ ∈ my_202_1 from List.mem_of_getElem? (i := 12) rfl)))
theorem cd_202_172 : mt_cd 202 172 = some (.iadd) := mt_cd_of (q := (172, .iadd, 1)) mq_202 ci_202 (List.mem_append_right _ (List.mem_append_left _ (show _ ∈ my_202_1 from List.mem_of_getElem? (i := 13) rfl)))
theorem cd_202_173 : mt_cd 202 173 = some (.iaload) := mt_cd_of (q := (173, .iaload, 1)) mq_202 ci_202 (List.mem_append_right _ (List.mem_append_left _ (show _ ∈ my_202_1 from List.mem_of_getElem? (i := 14) rfl)))
theorem cd_202_174 : mt_cd 202 174 = some (.aload_n 0) := mt_cd_of (q := (174, .aload_n 0, 1)) mq_202 ci_202 (List.mem_append_right _ (List.mem_append_left _ (show _ ∈ my_202_1 from List.mem_of_getElem? (i := 15) rfl)))
theorem cd_202_175 : mt_cd 202 175 = some (.iload 4) := mt_cd_of (q := (175, .iload 4, 2)) mq_202 ci_202 (List.mem_append_right _ (List.mem_append_left _ (show _ ∈ my_202_1 from List.mem_of_getElem? (i := 16) rfl)))
theorem cd_202_177 : mt_cd 202 177 = some (.iconst 5) := mt_cd_of (q := (177, .iconst 5, 1)) mq_202 ci_202 (List.mem_append_right _ (List.mem_append_left _ (show _ ∈ my_202_1 from List.mem_of_getElem? (i := 17) rfl)))
theorem cd_202_178 : mt_cd 202 178 = some (.iadd) := mt_cd_of (q := (178, .iadd, 1)) mq_202 ci_202 (List.mem_append_right _ (List.mem_append_left _ (show _ ∈ my_202_1 from List.mem_of_getElem? (i := 18) rfl)))
theorem cd_202_179 : mt_cd 202 179 = some (.iaload) := mt_cd_of (q := (179, .iaload, 1)) mq_202 ci_202 (List.mem_append_right _ (List.mem_append_left _ (show _ ∈ my_202_1 from List.mem_of_getElem? (i := 19) rfl)))
theorem cd_202_180 : mt_cd 202 180 = some (.invokevirtual 74) := mt_cd_of (q := (180, .invokevirtual 74, 3)) mq_202 ci_202 (List.mem_append_right _ (List.mem_append_left _ (show _ ∈ my_202_1 from List.mem_of_getElem? (i := 20) rfl)))
theorem cd_202_183 : mt_cd 202 183 = some (.istore 6) := mt_cd_of (q := (183, .istore 6, 2)) mq_202 ci_202 (List.mem_append_right _ (List.mem_append_left _ (show _ ∈ my_202_1 from List.mem_of_getElem? (i := 21) rfl)))
theorem cd_202_185 : mt_cd 202 185 = some (.aload_n 2) := mt_cd_of (q := (185, .aload_n 2, 1)) mq_202 ci_202 (List.mem_append_right _ (List.mem_append_left _ (show _ ∈ my_202_1 from List.mem_of_getElem? (i := 22) rfl)))
theorem cd_202_186 : mt_cd 202 186 = some (.invokevirtual 75) := mt_cd_of (q := (186, .invokevirtual 75, 3)) mq_202 ci_202 (List.mem_append_right _ (List.mem_append_left _ (show _ ∈ my_202_1 from List.mem_of_getElem? (i := 23) rfl)))
theorem cd_202_189 : mt_cd 202 189 = some (.iload 5) := mt_cd_of (q := (189, .iload 5, 2)) mq_202 ci_202 (List.mem_append_right _ (List.mem_append_left _ (show _ ∈ my_202_1 from List.mem_of_getElem? (i := 24) rfl)))
theorem cd_202_191 : mt_cd 202 191 = some (.if_icmp .eq 5) := mt_cd_of (q := (191, .if_icmp .eq 5, 3)) mq_202 ci_202 (List.mem_append_right _ (List.mem_append_left _ (show _ ∈ my_202_1 from List.mem_of_getElem? (i := 25) rfl)))
theorem cd_202_194 : mt_cd 202 194 = some (.iconst 0) := mt_cd_of (q := (194, .iconst 0, 1)) mq_202 ci_202 (List.mem_append_right _ (List.mem_append_left _ (show _ ∈ my_202_1 from List.mem_of_getElem? (i := 26) rfl)))
theorem cd_202_195 : mt_cd 202 195 = some (.ireturn) := mt_cd_of (q := (195, .ireturn, 1)) mq_202 ci_202 (List.mem_append_right _ (List.mem_append_left _ (show _ ∈ my_202_1 from List.mem_of_getElem? (i := 27) rfl)))
theorem cd_202_196 : mt_cd 202 196 = some (.iload 5) := mt_cd_of (q := (196, .iload 5, 2)) mq_202 ci_202 (List.mem_append_right _ (List.mem_append_left _ (show _ ∈ my_202_1 from List.mem_of_getElem? (i := 28) rfl)))
theorem cd_202_198 : mt_cd 202 198 = some (.ifCond .ne 15) := mt_cd_of (q := (198, .ifCond .ne 15, 3)) mq_202 ci_202 (List.mem_append_right _ (List.mem_append_left _ (show _ ∈ my_202_1 from List.mem_of_getElem? (i := 29) rfl)))
theorem cd_202_201 : mt_cd 202 201 = some (.aload_n 3) := mt_cd_of (q := (201, .aload_n 3, 1)) mq_202 ci_202 (List.mem_append_right _ (List.mem_append_left _ (show _ ∈ my_202_1 from List.mem_of_getElem? (i := 30) rfl)))
theorem cd_202_202 : mt_cd 202 202 = some (.iconst 0) := mt_cd_of (q := (202, .iconst 0, 1)) mq_202 ci_202 (List.mem_append_right _ (List.mem_append_left _ (show _ ∈ my_202_1 from List.mem_of_getElem? (i := 31) rfl)))
theorem cd_202_203 : mt_cd 202 203 = some (.laload) := mt_cd_of (q := (203, .laload, 1)) mq_202 ci_202 (List.mem_append_right _ (List.mem_append_left _ (show _ ∈ my_202_1 from List.mem_of_getElem? (i := 32) rfl)))
theorem cd_202_204 : mt_cd 202 204 = some (.iload 6) := mt_cd_of (q := (204, .iload 6, 2)) mq_202 ci_202 (List.mem_append_right _ (List.mem_append_left _ (show _ ∈ my_202_1 from List.mem_of_getElem? (i := 33) rfl)))
theorem cd_202_206 : mt_cd 202 206 = some (.i2l) := mt_cd_of (q := (206, .i2l, 1)) mq_202 ci_202 (List.mem_append_right _ (List.mem_append_left _ (show _ ∈ my_202_1 from List.mem_of_getElem? (i := 34) rfl)))
theorem cd_202_207 : mt_cd 202 207 = some (.lcmp) := mt_cd_of (q := (207, .lcmp, 1)) mq_202 ci_202 (List.mem_append_right _ (List.mem_append_left _ (show _ ∈ my_202_1 from List.mem_of_getElem? (i := 35) rfl)))
theorem cd_202_208 : mt_cd 202 208 = some (.ifCond .eq 5) := mt_cd_of (q := (208, .ifCond .eq 5, 3)) mq_202 ci_202 (List.mem_append_right _ (List.mem_append_left _ (show _ ∈ my_202_1 from List.mem_of_getElem? (i := 36) rfl)))
theorem cd_202_211 : mt_cd 202 211 = some (.iconst 0) := mt_cd_of (q := (211, .iconst 0, 1)) mq_202 ci_202 (List.mem_append_right _ (List.mem_append_left _ (show _ ∈ my_202_1 from List.mem_of_getElem? (i := 37) rfl)))
theorem cd_202_212 : mt_cd 202 212 = some (.ireturn) := mt_cd_of (q := (212, .ireturn, 1)) mq_202 ci_202 (List.mem_append_right _ (List.mem_append_left _ (show _ ∈ my_202_1 from List.mem_of_getElem? (i := 38) rfl)))
theorem cd_202_213 : mt_cd 202 213 = some (.goto 952) := mt_cd_of (q := (213, .goto 952, 3)) mq_202 ci_202 (List.mem_append_right _ (List.mem_append_left _ (show _ ∈ my_202_1 from List.mem_of_getElem? (i := 39) rfl)))
theorem cd_202_216 : mt_cd 202 216 = some (.aload_n 1) := mt_cd_of (q := (216, .aload_n 1, 1)) mq_202 ci_202 (List.mem_append_right _ (List.mem_append_left _ (show _ ∈ my_202_1 from List.mem_of_getElem? (i := 40) rfl)))
theorem cd_202_217 : mt_cd 202 217 = some (.aload_n 0) := mt_cd_of (q := (217, .aload_n 0, 1)) mq_202 ci_202 (List.mem_append_right _ (List.mem_append_left _ (show _ ∈ my_202_1 from List.mem_of_getElem? (i := 41) rfl)))
theorem cd_202_218 : mt_cd 202 218 = some (.iload 4) := mt_cd_of (q := (218, .iload 4, 2)) mq_202 ci_202 (List.mem_append_right _ (List.mem_append_left _ (show _ ∈ my_202_1 from List.mem_of_getElem? (i := 42) rfl)))
theorem cd_202_220 : mt_cd 202 220 = some (.iconst 1) := mt_cd_of (q := (220, .iconst 1, 1)) mq_202 ci_202 (List.mem_append_right _ (List.mem_append_left _ (show _ ∈ my_202_1 from List.mem_of_getElem? (i := 43) rfl)))
theorem cd_202_221 : mt_cd 202 221 = some (.iadd) := mt_cd_of (q := (221, .iadd, 1)) mq_202 ci_202 (List.mem_append_right _ (List.mem_append_left _ (show _ ∈ my_202_1 from List.mem_of_getElem? (i := 44) rfl)))
theorem cd_202_222 : mt_cd 202 222 = some (.iaload) := mt_cd_of (q := (222, .iaload, 1)) mq_202 ci_202 (List.mem_append_right _ (List.mem_append_left _ (show _ ∈ my_202_1 from List.mem_of_getElem? (i := 45) rfl)))
theorem cd_202_223 : mt_cd 202 223 = some (.aload_n 3) := mt_cd_of (q := (223, .aload_n 3, 1)) mq_202 ci_202 (List.mem_append_right _ (List.mem_append_left _ (show _ ∈ my_202_1 from List.mem_of_getElem? (i := 46) rfl)))
theorem cd_202_224 : mt_cd 202 224 = some (.invokestatic 78) := mt_cd_of (q := (224, .invokestatic 78, 3)) mq_202 ci_202 (List.mem_append_right _ (List.mem_append_left _ (show _ ∈ my_202_1 from List.mem_of_getElem? (i := 47) rfl)))
theorem cd_202_227 : mt_cd 202 227 = some (.istore 5) := mt_cd_of (q := (227, .istore 5, 2)) mq_202 ci_202 (List.mem_append_right _ (List.mem_append_left _ (show _ ∈ my_202_1 from List.mem_of_getElem? (i := 48) rfl)))
theorem cd_202_229 : mt_cd 202 229 = some (.aload_n 2) := mt_cd_of (q := (229, .aload_n 2, 1)) mq_202 ci_202 (List.mem_append_right _ (List.mem_append_left _ (show _ ∈ my_202_1 from List.mem_of_getElem? (i := 49) rfl)))
theorem cd_202_230 : mt_cd 202 230 = some (.aload_n 0) := mt_cd_of (q := (230, .aload_n 0, 1)) mq_202 ci_202 (List.mem_append_right _ (List.mem_append_left _ (show _ ∈ my_202_1 from List.mem_of_getElem? (i := 50) rfl)))
theorem cd_202_231 : mt_cd 202 231 = some (.iload 4) := mt_cd_of (q := (231, .iload 4, 2)) mq_202 ci_202 (List.mem_append_right _ (List.mem_append_left _ (show _ ∈ my_202_1 from List.mem_of_getElem? (i := 51) rfl)))
theorem cd_202_233 : mt_cd 202 233 = some (.iconst 1) := mt_cd_of (q := (233, .iconst 1, 1)) mq_202 ci_202 (List.mem_append_right _ (List.mem_append_left _ (show _ ∈ my_202_1 from List.mem_of_getElem? (i := 52) rfl)))
theorem cd_202_234 : mt_cd 202 234 = some (.iadd) := mt_cd_of (q := (234, .iadd, 1)) mq_202 ci_202 (List.mem_append_right _ (List.mem_append_left _ (show _ ∈ my_202_1 from List.mem_of_getElem? (i := 53) rfl)))
theorem cd_202_235 : mt_cd 202 235 = some (.iaload) := mt_cd_of (q := (235, .iaload, 1)) mq_202 ci_202 (List.mem_append_right _ (List.mem_append_left _ (show _ ∈ my_202_1 from List.mem_of_getElem? (i := 54) rfl)))
theorem cd_202_236 : mt_cd 202 236 = some (.invokevirtual 81) := mt_cd_of (q := (236, .invokevirtual 81, 3)) mq_202 ci_202 (List.mem_append_right _ (List.mem_append_left _ (show _ ∈ my_202_1 from List.mem_of_getElem? (i := 55) rfl)))
theorem cd_202_239 : mt_cd 202 239 = some (.istore 6) := mt_cd_of (q := (239, .istore 6, 2)) mq_202 ci_202 (List.mem_append_right _ (List.mem_append_left _ (show _ ∈ my_202_1 from List.mem_of_getElem? (i := 56) rfl)))
theorem cd_202_241 : mt_cd 202 241 = some (.aload_n 2) := mt_cd_of (q := (241, .aload_n 2, 1)) mq_202 ci_202 (List.mem_append_right _ (List.mem_append_left _ (show _ ∈ my_202_1 from List.mem_of_getElem? (i := 57) rfl)))
theorem cd_202_242 : mt_cd 202 242 = some (.invokevirtual 75) := mt_cd_of (q := (242, .invokevirtual 75, 3)) mq_202 ci_202 (List.mem_append_right _ (List.mem_append_left _ (show _ ∈ my_202_1 from List.mem_of_getElem? (i := 58) rfl)))
theorem cd_202_245 : mt_cd 202 245 = some (.iload 5) := mt_cd_of (q := (245, .iload 5, 2)) mq_202 ci_202 (List.mem_append_right _ (List.mem_append_left _ (show _ ∈ my_202_1 from List.mem_of_getElem? (i := 59) rfl)))
theorem cd_202_247 : mt_cd 202 247 = some (.if_icmp .eq 5) := mt_cd_of (q := (247, .if_icmp .eq 5, 3)) mq_202 ci_202 (List.mem_append_right _ (List.mem_append_right _ (List.mem_append_left _ (show _ ∈ my_202_2 from List.mem_of_getElem? (i := 0) rfl))))
theorem cd_202_250 : mt_cd 202 250 = some (.iconst 0) := mt_cd_of (q := (250, .iconst 0, 1)) mq_202 ci_202 (List.mem_append_right _ (List.mem_append_right _ (List.mem_append_left _ (show _ ∈ my_202_2 from List.mem_of_getElem? (i := 1) rfl))))
theorem cd_202_251 : mt_cd 202 251 = some (.ireturn) := mt_cd_of (q := (251, .ireturn, 1)) mq_202 ci_202 (List.mem_append_right _ (List.mem_append_right _ (List.mem_append_left _ (show _ ∈ my_202_2 from List.mem_of_getElem? (i := 2) rfl))))
theorem cd_202_252 : mt_cd 202 252 = some (.iload 5) := mt_cd_of (q := (252, .iload 5, 2)) mq_202 ci_202 (List.mem_append_right _ (List.mem_append_right _ (List.mem_append_left _ (show _ ∈ my_202_2 from List.mem_of_getElem? (i := 3) rfl))))
theorem cd_202_254 : mt_cd 202 254 = some (.ifCond .ne 15) := mt_cd_of (q := (254, .ifCond .ne 15, 3)) mq_202 ci_202 (List.mem_append_right _ (List.mem_append_right _ (List.mem_append_left _ (show _ ∈ my_202_2 from List.mem_of_getElem? (i := 4) rfl))))
theorem cd_202_257 : mt_cd 202 257 = some (.aload_n 3) := mt_cd_of (q := (257, .aload_n 3, 1)) mq_202 ci_202 (List.mem_append_right _ (List.mem_append_right _ (List.mem_append_left _ (show _ ∈ my_202_2 from List.mem_of_getElem? (i := 5) rfl))))
theorem cd_202_258 : mt_cd 202 258 = some (.iconst 0) := mt_cd_of (q := (258, .iconst 0, 1)) mq_202 ci_202 (List.mem_append_right _ (List.mem_append_right _ (List.mem_append_left _ (show _ ∈ my_202_2 from List.mem_of_getElem? (i := 6) rfl))))
theorem cd_202_259 : mt_cd 202 259 = some (.laload) := mt_cd_of (q := (259, .laload, 1)) mq_202 ci_202 (List.mem_append_right _ (List.mem_append_right _ (List.mem_append_left _ (show _ ∈ my_202_2 from List.mem_of_getElem? (i := 7) rfl))))
theorem cd_202_260 : mt_cd 202 260 = some (.iload 6) := mt_cd_of (q := (260, .iload 6, 2)) mq_202 ci_202 (List.mem_append_right _ (List.mem_append_right _ (List.mem_append_left _ (show _ ∈ my_202_2 from List.mem_of_getElem? (i := 8) rfl))))
theorem cd_202_262 : mt_cd 202 262 = some (.i2l) := mt_cd_of (q := (262, .i2l, 1)) mq_202 ci_202 (List.mem_append_right _ (List.mem_append_right _ (List.mem_append_left _ (show _ ∈ my_202_2 from List.mem_of_getElem? (i := 9) rfl))))
theorem cd_202_263 : mt_cd 202 263 = some (.lcmp) := mt_cd_of (q := (263, .lcmp, 1)) mq_202 ci_202 (List.mem_append_right _ (List.mem_append_right _ (List.mem_append_left _ (show _ ∈ my_202_2 from List.mem_of_getElem? (i := 10) rfl))))
theorem cd_202_264 : mt_cd 202 264 = some (.ifCond .eq 5) := mt_cd_of (q := (264, .ifCond .eq 5, 3)) mq_202 ci_202 (List.mem_append_right _ (List.mem_append_right _ (List.mem_append_left _ (show _ ∈ my_202_2 from List.mem_of_getElem? (i := 11) rfl))))
theorem cd_202_267 : mt_cd 202 267 = some (.iconst 0) := mt_cd_of (q := (267, .iconst 0, 1)) mq_202 ci_202 (List.mem_append_right _ (List.mem_append_right _ (List.mem_append_left _ (show _ ∈ my_202_2 from List.mem_of_getElem? (i := 12) rfl))))
theorem cd_202_268 : mt_cd 202 268 = some (.ireturn) := mt_cd_of (q := (268, .ireturn, 1)) mq_202 ci_202 (List.mem_append_right _ (List.mem_append_right _ (List.mem_append_left _ (show _ ∈ my_202_2 from List.mem_of_getElem? (i := 13) rfl))))
theorem cd_202_269 : mt_cd 202 269 = some (.goto 896) := mt_cd_of (q := (269, .goto 896, 3)) mq_202 ci_202 (List.mem_append_right _ (List.mem_append_right _ (List.mem_append_left _ (show _ ∈ my_202_2 from List.mem_of_getElem? (i := 14) rfl))))
theorem cd_202_272 : mt_cd 202 272 = some (.aload_n 1) := mt_cd_of (q := (272, .aload_n 1, 1)) mq_202 ci_202 (List.mem_append_right _ (List.mem_append_right _ (List.mem_append_left _ (show _ ∈ my_202_2 from List.mem_of_getElem? (i := 15) rfl))))
theorem cd_202_273 : mt_cd 202 273 = some (.invokevirtual 82) := mt_cd_of (q := (273, .invokevirtual 82, 3)) mq_202 ci_202 (List.mem_append_right _ (List.mem_append_right _ (List.mem_append_left _ (show _ ∈ my_202_2 from List.mem_of_getElem? (i := 16) rfl))))
theorem cd_202_276 : mt_cd 202 276 = some (.aload_n 2) := mt_cd_of (q := (276, .aload_n 2, 1)) mq_202 ci_202 (List.mem_append_right _ (List.mem_append_right _ (List.mem_append_left _ (show _ ∈ my_202_2 from List.mem_of_getElem? (i := 17) rfl))))
theorem cd_202_277 : mt_cd 202 277 = some (.invokevirtual 85) := mt_cd_of (q := (277, .invokevirtual 85, 3)) mq_202 ci_202 (List.mem_append_right _ (List.mem_append_right _ (List.mem_append_left _ (show _ ∈ my_202_2 from List.mem_of_getElem? (i := 18) rfl))))
theorem cd_202_280 : mt_cd 202 280 = some (.if_icmp .eq 885) := mt_cd_of (q := (280, .if_icmp .eq 885, 3)) mq_202 ci_202 (List.mem_append_right _ (List.mem_append_right _ (List.mem_append_left _ (show _ ∈ my_202_2 from List.mem_of_getElem? (i := 19) rfl))))
theorem cd_202_283 : mt_cd 202 283 = some (.iconst 0) := mt_cd_of (q := (283, .iconst 0, 1)) mq_202 ci_202 (List.mem_append_right _ (List.mem_append_right _ (List.mem_append_left _ (show _ ∈ my_202_2 from List.mem_of_getElem? (i := 20) rfl))))
theorem cd_202_284 : mt_cd 202 284 = some (.ireturn) := mt_cd_of (q := (284, .ireturn, 1)) mq_202 ci_202 (List.mem_append_right _ (List.mem_append_right _ (List.mem_append_left _ (show _ ∈ my_202_2 from List.mem_of_getElem? (i := 21) rfl))))
theorem cd_202_285 : mt_cd 202 285 = some (.aload_n 1) := mt_cd_of (q := (285, .aload_n 1, 1)) mq_202 ci_202 (List.mem_append_right _ (List.mem_append_right _ (List.mem_append_left _ (show _ ∈ my_202_2 from List.mem_of_getElem? (i := 22) rfl))))
theorem cd_202_286 : mt_cd 202 286 = some (.aload_n 0) := mt_cd_of (q := (286, .aload_n 0, 1)) mq_202 ci_202 (List.mem_append_right _ (List.mem_append_right _ (List.mem_append_left _ (show _ ∈ my_202_2 from List.mem_of_getElem? (i := 23) rfl))))
theorem cd_202_287 : mt_cd 202 287 = some (.iload 4) := mt_cd_of (q := (287, .iload 4, 2)) mq_202 ci_202 (List.mem_append_right _ (List.mem_append_right _ (List.mem_append_left _ (show _ ∈ my_202_2 from List.mem_of_getElem? (i := 24) rfl))))
theorem cd_202_289 : mt_cd 202 289 = some (.iconst 1) := mt_cd_of (q := (289, .iconst 1, 1)) mq_202 ci_202 (List.mem_append_right _ (List.mem_append_right _ (List.mem_append_left _ (show _ ∈ my_202_2 from List.mem_of_getElem? (i := 25) rfl))))
theorem cd_202_290 : mt_cd 202 290 = some (.iadd) := mt_cd_of (q := (290, .iadd, 1)) mq_202 ci_202 (List.mem_append_right _ (List.mem_append_right _ (List.mem_append_left _ (show _ ∈ my_202_2 from List.mem_of_getElem? (i := 26) rfl))))
theorem cd_202_291 : mt_cd 202 291 = some (.iaload) := mt_cd_of (q := (291, .iaload, 1)) mq_202 ci_202 (List.mem_append_right _ (List.mem_append_right _ (List.mem_append_left _ (show _ ∈ my_202_2 from List.mem_of_getElem? (i := 27) rfl))))
theorem cd_202_292 : mt_cd 202 292 = some (.aload_n 0) := mt_cd_of (q := (292, .aload_n 0, 1)) mq_202 ci_202 (List.mem_append_right _ (List.mem_append_right _ (List.mem_append_left _ (show _ ∈ my_202_2 from List.mem_of_getElem? (i := 28) rfl))))
theorem cd_202_293 : mt_cd 202 293 = some (.iload 4) := mt_cd_of (q := (293, .iload 4, 2)) mq_202 ci_202 (List.mem_append_right _ (List.mem_append_right _ (List.mem_append_left _ (show _ ∈ my_202_2 from List.mem_of_getElem? (i := 29) rfl))))
theorem cd_202_295 : mt_cd 202 295 = some (.iconst 2) := mt_cd_of (q := (295, .iconst 2, 1)) mq_202 ci_202 (List.mem_append_right _ (List.mem_append_right _ (List.mem_append_left _ (show _ ∈ my_202_2 from List.mem_of_getElem? (i := 30) rfl))))
theorem cd_202_296 : mt_cd 202 296 = some (.iadd) := mt_cd_of (q := (296, .iadd, 1)) mq_202 ci_202 (List.mem_append_right _ (List.mem_append_right _ (List.mem_append_left _ (show _ ∈ my_202_2 from List.mem_of_getElem? (i := 31) rfl))))
theorem cd_202_297 : mt_cd 202 297 = some (.iaload) := mt_cd_of (q := (297, .iaload, 1)) mq_202 ci_202 (List.mem_append_right _ (List.mem_append_right _ (List.mem_append_left _ (show _ ∈ my_202_2 from List.mem_of_getElem? (i := 32) rfl))))
theorem cd_202_298 : mt_cd 202 298 = some (.aload_n 0) := mt_cd_of (q := (298, .aload_n 0, 1)) mq_202 ci_202 (List.mem_append_right _ (List.mem_append_right _ (List.mem_append_left _ (show _ ∈ my_202_2 from List.mem_of_getElem? (i := 33) rfl))))
theorem cd_202_299 : mt_cd 202 299 = some (.iload 4) := mt_cd_of (q := (299, .iload 4, 2)) mq_202 ci_202 (List.mem_append_right _ (List.mem_append_right _ (List.mem_append_left _ (show _ ∈ my_202_2 from List.mem_of_getElem? (i := 34) rfl))))
theorem cd_202_301 : mt_cd 202 301 = some (.iconst 3) := mt_cd_of (q := (301, .iconst 3, 1)) mq_202 ci_202 (List.mem_append_right _ (List.mem_append_right _ (List.mem_append_left _ (show _ ∈ my_202_2 from List.mem_of_getElem? (i := 35) rfl))))
theorem cd_202_302 : mt_cd 202 302 = some (.iadd) := mt_cd_of (q := (302, .iadd, 1)) mq_202 ci_202 (List.mem_append_right _ (List.mem_append_right _ (List.mem_append_left _ (show _ ∈ my_202_2 from List.mem_of_getElem? (i := 36) rfl))))
theorem cd_202_303 : mt_cd 202 303 = some (.iaload) := mt_cd_of (q := (303, .iaload, 1)) mq_202 ci_202 (List.mem_append_right _ (List.mem_append_right _ (List.mem_append_left _ (show _ ∈ my_202_2 from List.mem_of_getElem? (i := 37) rfl))))
theorem cd_202_304 : mt_cd 202 304 = some (.i2l) := mt_cd_of (q := (304, .i2l, 1)) mq_202 ci_202 (List.mem_append_right _ (List.mem_append_right _ (List.mem_append_left _ (show _ ∈ my_202_2 from List.mem_of_getElem? (i := 38) rfl))))
theorem cd_202_305 : mt_cd 202 305 = some (.bipush 32) := mt_cd_of (q := (305, .bipush 32, 2)) mq_202 ci_202 (List.mem_append_right _ (List.mem_append_right _ (List.mem_append_left _ (show _ ∈ my_202_2 from List.mem_of_getElem? (i := 39) rfl))))
theorem cd_202_307 : mt_cd 202 307 = some (.lshl) := mt_cd_of (q := (307, .lshl, 1)) mq_202 ci_202 (List.mem_append_right _ (List.mem_append_right _ (List.mem_append_left _ (show _ ∈ my_202_2 from List.mem_of_getElem? (i := 40) rfl))))
theorem cd_202_308 : mt_cd 202 308 = some (.aload_n 0) := mt_cd_of (q := (308, .aload_n 0, 1)) mq_202 ci_202 (List.mem_append_right _ (List.mem_append_right _ (List.mem_append_left _ (show _ ∈ my_202_2 from List.mem_of_getElem? (i := 41) rfl))))
theorem cd_202_309 : mt_cd 202 309 = some (.iload 4) := mt_cd_of (q := (309, .iload 4, 2)) mq_202 ci_202 (List.mem_append_right _ (List.mem_append_right _ (List.mem_append_left _ (show _ ∈ my_202_2 from List.mem_of_getElem? (i := 42) rfl))))
theorem cd_202_311 : mt_cd 202 311 = some (.iconst 4) := mt_cd_of (q := (311, .iconst 4, 1)) mq_202 ci_202 (List.mem_append_right _ (List.mem_append_right _ (List.mem_append_left _ (show _ ∈ my_202_2 from List.mem_of_getElem? (i := 43) rfl))))
theorem cd_202_312 : mt_cd 202 312 = some (.iadd) := mt_cd_of (q := (312, .iadd, 1)) mq_202 ci_202 (List.mem_append_right _ (List.mem_append_right _ (List.mem_append_left _ (show _ ∈ my_202_2 from List.mem_of_getElem? (i := 44) rfl))))
theorem cd_202_313 : mt_cd 202 313 = some (.iaload) := mt_cd_of (q := (313, .iaload, 1)) mq_202 ci_202 (List.mem_append_right _ (List.mem_append_right _ (List.mem_append_left _ (show _ ∈ my_202_2 from List.mem_of_getElem? (i := 45) rfl))))
theorem cd_202_314 : mt_cd 202 314 = some (.i2l) := mt_cd_of (q := (314, .i2l, 1)) mq_202 ci_202 (List.mem_append_right _ (List.mem_append_right _ (List.mem_append_left _ (show _ ∈ my_202_2 from List.mem_of_getElem? (i := 46) rfl))))
theorem cd_202_315 : mt_cd 202 315 = some (.ldc2_w 86) := mt_cd_of (q := (315, .ldc2_w 86, 3)) mq_202 ci_202 (List.mem_append_right _ (List.mem_append_right _ (List.mem_append_left _ (show _ ∈ my_202_2 from List.mem_of_getElem? (i := 47) rfl))))
theorem cd_202_318 : mt_cd 202 318 = some (.land) := mt_cd_of (q := (318, .land, 1)) mq_202 ci_202 (List.mem_append_right _ (List.mem_append_right _ (List.mem_append_left _ (show _ ∈ my_202_2 from List.mem_of_getElem? (i := 48) rfl))))
theorem cd_202_319 : mt_cd 202 319 = some (.lor) := mt_cd_of (q := (319, .lor, 1)) mq_202 ci_202 (List.mem_append_right _ (List.mem_append_right _ (List.mem_append_left _ (show _ ∈ my_202_2 from List.mem_of_getElem? (i := 49) rfl))))
theorem cd_202_320 : mt_cd 202 320 = some (.aload_n 3) := mt_cd_of (q := (320, .aload_n 3, 1)) mq_202 ci_202 (List.mem_append_right _ (List.mem_append_right _ (List.mem_append_left _ (show _ ∈ my_202_2 from List.mem_of_getElem? (i := 50) rfl))))
theorem cd_202_321 : mt_cd 202 321 = some (.invokestatic 88) := mt_cd_of (q := (321, .invokestatic 88, 3)) mq_202 ci_202 (List.mem_append_right _ (List.mem_append_right _ (List.mem_append_left _ (show _ ∈ my_202_2 from List.mem_of_getElem? (i := 51) rfl))))
theorem cd_202_324 : mt_cd 202 324 = some (.istore 5) := mt_cd_of (q := (324, .istore 5, 2)) mq_202 ci_202 (List.mem_append_right _ (List.mem_append_right _ (List.mem_append_left _ (show _ ∈ my_202_2 from List.mem_of_getElem? (i := 52) rfl))))
theorem cd_202_326 : mt_cd 202 326 = some (.aload_n 2) := mt_cd_of (q := (326, .aload_n 2, 1)) mq_202 ci_202 (List.mem_append_right _ (List.mem_append_right _ (List.mem_append_left _ (show _ ∈ my_202_2 from List.mem_of_getElem? (i := 53) rfl))))
theorem cd_202_327 : mt_cd 202 327 = some (.aload_n 0) := mt_cd_of (q := (327, .aload_n 0, 1)) mq_202 ci_202 (List.mem_append_right _ (List.mem_append_right _ (List.mem_append_left _ (show _ ∈ my_202_2 from List.mem_of_getElem? (i := 54) rfl))))
theorem cd_202_328 : mt_cd 202 328 = some (.iload 4) := mt_cd_of (q := (328, .iload 4, 2)) mq_202 ci_202 (List.mem_append_right _ (List.mem_append_right _ (List.mem_append_left _ (show _ ∈ my_202_2 from List.mem_of_getElem? (i := 55) rfl))))
theorem cd_202_330 : mt_cd 202 330 = some (.iconst 1) := mt_cd_of (q := (330, .iconst 1, 1)) mq_202 ci_202 (List.mem_append_right _ (List.mem_append_right _ (List.mem_append_left _ (show _ ∈ my_202_2 from List.mem_of_getElem? (i := 56) rfl))))
theorem cd_202_331 : mt_cd 202 331 = some (.iadd) := mt_cd_of (q := (331, .iadd, 1)) mq_202 ci_202 (List.mem_append_right _ (List.mem_append_right _ (List.mem_append_left _ (show _ ∈ my_202_2 from List.mem_of_getElem? (i := 57) rfl))))
theorem cd_202_332 : mt_cd 202 332 = some (.iaload) := mt_cd_of (q := (332, .iaload, 1)) mq_202 ci_202 (List.mem_append_right _ (List.mem_append_right _ (List.mem_append_left _ (show _ ∈ my_202_2 from List.mem_of_getElem? (i := 58) rfl))))
theorem cd_202_333 : mt_cd 202 333 = some (.aload_n 0) := mt_cd_of (q := (333, .aload_n 0, 1)) mq_202 ci_202 (List.mem_append_right _ (List.mem_append_right _ (List.mem_append_left _ (show _ ∈ my_202_2 from List.mem_of_getElem? (i := 59) rfl))))
theorem cd_202_334 : mt_cd 202 334 = some (.iload 4) := mt_cd_of (q := (334, .iload 4, 2)) mq_202 ci_202 (List.mem_append_right _ (List.mem_append_right _ (List.mem_append_right _ (List.mem_append_left _ (show _ ∈ my_202_3 from List.mem_of_getElem? (i := 0) rfl)))))
theorem cd_202_336 : mt_cd 202 336 = some (.iconst 2) := mt_cd_of (q := (336, .iconst 2, 1)) mq_202 ci_202 (List.mem_append_right _ (List.mem_append_right _ (List.mem_append_right _ (List.mem_append_left _ (show _ ∈ my_202_3 from List.mem_of_getElem? (i := 1) rfl)))))
theorem cd_202_337 : mt_cd 202 337 = some (.iadd) := mt_cd_of (q := (337, .iadd, 1)) mq_202 ci_202 (List.mem_append_right _ (List.mem_append_right _ (List.mem_append_right _ (List.mem_append_left _ (show _ ∈ my_202_3 from List.mem_of_getElem? (i := 2) rfl)))))
theorem cd_202_338 : mt_cd 202 338 = some (.iaload) := mt_cd_of (q := (338, .iaload, 1)) mq_202 ci_202 (List.mem_append_right _ (List.mem_append_right _ (List.mem_append_right _ (List.mem_append_left _ (show _ ∈ my_202_3 from List.mem_of_getElem? (i := 3) rfl)))))
theorem cd_202_339 : mt_cd 202 339 = some (.aload_n 0) := mt_cd_of (q := (339, .aload_n 0, 1)) mq_202 ci_202 (List.mem_append_right _ (List.mem_append_right _ (List.mem_append_right _ (List.mem_append_left _ (show _ ∈ my_202_3 from List.mem_of_getElem? (i := 4) rfl)))))
theorem cd_202_340 : mt_cd 202 340 = some (.iload 4) := mt_cd_of (q := (340, .iload 4, 2)) mq_202 ci_202 (List.mem_append_right _ (List.mem_append_right _ (List.mem_append_right _ (List.mem_append_left _ (show _ ∈ my_202_3 from List.mem_of_getElem? (i := 5) rfl)))))
theorem cd_202_342 : mt_cd 202 342 = some (.iconst 3) := mt_cd_of (q := (342, .iconst 3, 1)) mq_202 ci_202 (List.mem_append_right _ (List.mem_append_right _ (List.mem_append_right _ (List.mem_append_left _ (show _ ∈ my_202_3 from List.mem_of_getElem? (i := 6) rfl)))))
theorem cd_202_343 : mt_cd 202 343 = some (.iadd) := mt_cd_of (q := (343, .iadd, 1)) mq_202 ci_202 (List.mem_append_right _ (List.mem_append_right _ (List.mem_append_right _ (List.mem_append_left _ (show _ ∈ my_202_3 from List.mem_of_getElem? (i := 7) rfl)))))
theorem cd_202_344 : mt_cd 202 344 = some (.iaload) := mt_cd_of (q := (344, .iaload, 1)) mq_202 ci_202 (List.mem_append_right _ (List.mem_append_right _ (List.mem_append_right _ (List.mem_append_left _ (show _ ∈ my_202_3 from List.mem_of_getElem? (i := 8) rfl)))))
theorem cd_202_345 : mt_cd 202 345 = some (.i2l) := mt_cd_of (q := (345, .i2l, 1)) mq_202 ci_202 (List.mem_append_right _ (List.mem_append_right _ (List.mem_append_right _ (List.mem_append_left _ (show _ ∈ my_202_3 from List.mem_of_getElem? (i := 9) rfl)))))
theorem cd_202_346 : mt_cd 202 346 = some (.bipush 32) := mt_cd_of (q := (346, .bipush 32, 2)) mq_202 ci_202 (List.mem_append_right _ (List.mem_append_right _ (List.mem_append_right _ (List.mem_append_left _ (show _ ∈ my_202_3 from List.mem_of_getElem? (i := 10) rfl)))))
theorem cd_202_348 : mt_cd 202 348 = some (.lshl) := mt_cd_of (q := (348, .lshl, 1)) mq_202 ci_202 (List.mem_append_right _ (List.mem_append_right _ (List.mem_append_right _ (List.mem_append_left _ (show _ ∈ my_202_3 from List.mem_of_getElem? (i := 11) rfl)))))
theorem cd_202_349 : mt_cd 202 349 = some (.aload_n 0) := mt_cd_of (q := (349, .aload_n 0, 1)) mq_202 ci_202 (List.mem_append_right _ (List.mem_append_right _ (List.mem_append_right _ (List.mem_append_left _ (show _ ∈ my_202_3 from List.mem_of_getElem? (i := 12) rfl)))))
theorem cd_202_350 : mt_cd 202 350 = some (.iload 4) := mt_cd_of (q := (350, .iload 4, 2)) mq_202 ci_202 (List.mem_append_right _ (List.mem_append_right _ (List.mem_append_right _ (List.mem_append_left _ (show _ ∈ my_202_3 from List.mem_of_getElem? (i := 13) rfl)))))
theorem cd_202_352 : mt_cd 202 352 = some (.iconst 4) := mt_cd_of (q := (352, .iconst 4, 1)) mq_202 ci_202 (List.mem_append_right _ (List.mem_append_right _ (List.mem_append_right _ (List.mem_append_left _ (show _ ∈ my_202_3 from List.mem_of_getElem? (i := 14) rfl)))))
theorem cd_202_353 : mt_cd 202 353 = some (.iadd) := mt_cd_of (q := (353, .iadd, 1)) mq_202 ci_202 (List.mem_append_right _ (List.mem_append_right _ (List.mem_append_right _ (List.mem_append_left _ (show _ ∈ my_202_3 from List.mem_of_getElem? (i := 15) rfl)))))
theorem cd_202_354 : mt_cd 202 354 = some (.iaload) := mt_cd_of (q := (354, .iaload, 1)) mq_202 ci_202 (List.mem_append_right _ (List.mem_append_right _ (List.mem_append_right _ (List.mem_append_left _ (show _ ∈ my_202_3 from List.mem_of_getElem? (i := 16) rfl)))))
theorem cd_202_355 : mt_cd 202 355 = some (.i2l) := mt_cd_of (q := (355, .i2l, 1)) mq_202 ci_202 (List.mem_append_right _ (List.mem_append_right _ (List.mem_append_right _ (List.mem_append_left _ (show _ ∈ my_202_3 from List.mem_of_getElem? (i := 17) rfl)))))
theorem cd_202_356 : mt_cd 202 356 = some (.ldc2_w 86) := mt_cd_of (q := (356, .ldc2_w 86, 3)) mq_202 ci_202 (List.mem_append_right _ (List.mem_append_right _ (List.mem_append_right _ (List.mem_append_left _ (show _ ∈ my_202_3 from List.mem_of_getElem? (i := 18) rfl)))))
theorem cd_202_359 : mt_cd 202 359 = some (.land) := mt_cd_of (q := (359, .land, 1)) mq_202 ci_202 (List.mem_append_right _ (List.mem_append_right _ (List.mem_append_right _ (List.mem_append_left _ (show _ ∈ my_202_3 from List.mem_of_getElem? (i := 19) rfl)))))
theorem cd_202_360 : mt_cd 202 360 = some (.lor) := mt_cd_of (q := (360, .lor, 1)) mq_202 ci_202 (List.mem_append_right _ (List.mem_append_right _ (List.mem_append_right _ (List.mem_append_left _ (show _ ∈ my_202_3 from List.mem_of_getElem? (i := 20) rfl)))))
theorem cd_202_361 : mt_cd 202 361 = some (.invokevirtual 91) := mt_cd_of (q := (361, .invokevirtual 91, 3)) mq_202 ci_202 (List.mem_append_right _ (List.mem_append_right _ (List.mem_append_right _ (List.mem_append_left _ (show _ ∈ my_202_3 from List.mem_of_getElem? (i := 21) rfl)))))
theorem cd_202_364 : mt_cd 202 364 = some (.lstore 6) := mt_cd_of (q := (364, .lstore 6, 2)) mq_202 ci_202 (List.mem_append_right _ (List.mem_append_right _ (List.mem_append_right _ (List.mem_append_left _ (show _ ∈ my_202_3 from List.mem_of_getElem? (i := 22) rfl)))))
theorem cd_202_366 : mt_cd 202 366 = some (.aload_n 2) := mt_cd_of (q := (366, .aload_n 2, 1)) mq_202 ci_202 (List.mem_append_right _ (List.mem_append_right _ (List.mem_append_right _ (List.mem_append_left _ (show _ ∈ my_202_3 from List.mem_of_getElem? (i := 23) rfl)))))
theorem cd_202_367 : mt_cd 202 367 = some (.invokevirtual 75) := mt_cd_of (q := (367, .invokevirtual 75, 3)) mq_202 ci_202 (List.mem_append_right _ (List.mem_append_right _ (List.mem_append_right _ (List.mem_append_left _ (show _ ∈ my_202_3 from List.mem_of_getElem? (i := 24) rfl)))))
theorem cd_202_370 : mt_cd 202 370 = some (.iload 5) := mt_cd_of (q := (370, .iload 5, 2)) mq_202 ci_202 (List.mem_append_right _ (List.mem_append_right _ (List.mem_append_right _ (List.mem_append_left _ (show _ ∈ my_202_3 from List.mem_of_getElem? (i := 25) rfl)))))
theorem cd_202_372 : mt_cd 202 372 = some (.if_icmp .eq 5) := mt_cd_of (q := (372, .if_icmp .eq 5, 3)) mq_202 ci_202 (List.mem_append_right _ (List.mem_append_right _ (List.mem_append_right _ (List.mem_append_left _ (show _ ∈ my_202_3 from List.mem_of_getElem? (i := 26) rfl)))))
theorem cd_202_375 : mt_cd 202 375 = some (.iconst 0) := mt_cd_of (q := (375, .iconst 0, 1)) mq_202 ci_202 (List.mem_append_right _ (List.mem_append_right _ (List.mem_append_right _ (List.mem_append_left _ (show _ ∈ my_202_3 from List.mem_of_getElem? (i := 27) rfl)))))
theorem cd_202_376 : mt_cd 202 376 = some (.ireturn) := mt_cd_of (q := (376, .ireturn, 1)) mq_202 ci_202 (List.mem_append_right _ (List.mem_append_right _ (List.mem_append_right _ (List.mem_append_left _ (show _ ∈ my_202_3 from List.mem_of_getElem? (i := 28) rfl)))))
theorem cd_202_377 : mt_cd 202 377 = some (.iload 5) := mt_cd_of (q := (377, .iload 5, 2)) mq_202 ci_202 (List.mem_append_right _ (List.mem_append_right _ (List.mem_append_right _ (List.mem_append_left _ (show _ ∈ my_202_3 from List.mem_of_getElem? (i := 29) rfl)))))
theorem cd_202_379 : mt_cd 202 379 = some (.ifCond .ne 14) := mt_cd_of (q := (379, .ifCond .ne 14, 3)) mq_202 ci_202 (List.mem_append_right _ (List.mem_append_right _ (List.mem_append_right _ (List.mem_append_left _ (show _ ∈ my_202_3 from List.mem_of_getElem? (i := 30) rfl)))))
theorem cd_202_382 : mt_cd 202 382 = some (.aload_n 3) := mt_cd_of (q := (382, .aload_n 3, 1)) mq_202 ci_202 (List.mem_append_right _ (List.mem_append_right _ (List.mem_append_right _ (List.mem_append_left _ (show _ ∈ my_202_3 from List.mem_of_getElem? (i := 31) rfl)))))
theorem cd_202_383 : mt_cd 202 383 = some (.iconst 0) := mt_cd_of (q := (383, .iconst 0, 1)) mq_202 ci_202 (List.mem_append_right _ (List.mem_append_right _ (List.mem_append_right _ (List.mem_append_left _ (show _ ∈ my_202_3 from List.mem_of_getElem? (i := 32) rfl)))))
theorem cd_202_384 : mt_cd 202 384 = some (.laload) := mt_cd_of (q := (384, .laload, 1)) mq_202 ci_202 (List.mem_append_right _ (List.mem_append_right _ (List.mem_append_right _ (List.mem_append_left _ (show _ ∈ my_202_3 from List.mem_of_getElem? (i := 33) rfl)))))
theorem cd_202_385 : mt_cd 202 385 = some (.lload 6) := mt_cd_of (q := (385, .lload 6, 2)) mq_202 ci_202 (List.mem_append_right _ (List.mem_append_right _ (List.mem_append_right _ (List.mem_append_left _ (show _ ∈ my_202_3 from List.mem_of_getElem? (i := 34) rfl)))))
theorem cd_202_387 : mt_cd 202 387 = some (.lcmp) := mt_cd_of (q := (387, .lcmp, 1)) mq_202 ci_202 (List.mem_append_right _ (List.mem_append_right _ (List.mem_append_right _ (List.mem_append_left _ (show _ ∈ my_202_3 from List.mem_of_getElem? (i := 35) rfl)))))
theorem cd_202_388 : mt_cd 202 388 = some (.ifCond .eq 5) := mt_cd_of (q := (388, .ifCond .eq 5, 3)) mq_202 ci_202 (List.mem_append_right _ (List.mem_append_right _ (List.mem_append_right _ (List.mem_append_left _ (show _ ∈ my_202_3 from List.mem_of_getElem? (i := 36) rfl)))))
theorem cd_202_391 : mt_cd 202 391 = some (.iconst 0) := mt_cd_of (q := (391, .iconst 0, 1)) mq_202 ci_202 (List.mem_append_right _ (List.mem_append_right _ (List.mem_append_right _ (List.mem_append_left _ (show _ ∈ my_202_3 from List.mem_of_getElem? (i := 37) rfl)))))
theorem cd_202_392 : mt_cd 202 392 = some (.ireturn) := mt_cd_of (q := (392, .ireturn, 1)) mq_202 ci_202 (List.mem_append_right _ (List.mem_append_right _ (List.mem_append_right _ (List.mem_append_left _ (show _ ∈ my_202_3 from List.mem_of_getElem? (i := 38) rfl)))))
theorem cd_202_393 : mt_cd 202 393 = some (.goto 772) := mt_cd_of (q := (393, .goto 772, 3)) mq_202 ci_202 (List.mem_append_right _ (List.mem_append_right _ (List.mem_append_right _ (List.mem_append_left _ (show _ ∈ my_202_3 from List.mem_of_getElem? (i := 39) rfl)))))
theorem cd_202_396 : mt_cd 202 396 = some (.aload_n 1) := mt_cd_of (q := (396, .aload_n 1, 1)) mq_202 ci_202 (List.mem_append_right _ (List.mem_append_right _ (List.mem_append_right _ (List.mem_append_left _ (show _ ∈ my_202_3 from List.mem_of_getElem? (i := 40) rfl)))))
theorem cd_202_397 : mt_cd 202 397 = some (.aload_n 0) := mt_cd_of (q := (397, .aload_n 0, 1)) mq_202 ci_202 (List.mem_append_right _ (List.mem_append_right _ (List.mem_append_right _ (List.mem_append_left _ (show _ ∈ my_202_3 from List.mem_of_getElem? (i := 41) rfl)))))
theorem cd_202_398 : mt_cd 202 398 = some (.iload 4) := mt_cd_of (q := (398, .iload 4, 2)) mq_202 ci_202 (List.mem_append_right _ (List.mem_append_right _ (List.mem_append_right _ (List.mem_append_left _ (show _ ∈ my_202_3 from List.mem_of_getElem? (i := 42) rfl)))))
theorem cd_202_400 : mt_cd 202 400 = some (.iconst 1) := mt_cd_of (q := (400, .iconst 1, 1)) mq_202 ci_202 (List.mem_append_right _ (List.mem_append_right _ (List.mem_append_right _ (List.mem_append_left _ (show _ ∈ my_202_3 from List.mem_of_getElem? (i := 43) rfl)))))
theorem cd_202_401 : mt_cd 202 401 = some (.iadd) := mt_cd_of (q := (401, .iadd, 1)) mq_202 ci_202 (List.mem_append_right _ (List.mem_append_right _ (List.mem_append_right _ (List.mem_append_left _ (show _ ∈ my_202_3 from List.mem_of_getElem? (i := 44) rfl)))))
theorem cd_202_402 : mt_cd 202 402 = some (.iaload) := mt_cd_of (q := (402, .iaload, 1)) mq_202 ci_202 (List.mem_append_right _ (List.mem_append_right _ (List.mem_append_right _ (List.mem_append_left _ (show _ ∈ my_202_3 from List.mem_of_getElem? (i := 45) rfl)))))
theorem cd_202_403 : mt_cd 202 403 = some (.aload_n 0) := mt_cd_of (q := (403, .aload_n 0, 1)) mq_202 ci_202 (List.mem_append_right _ (List.mem_append_right _ (List.mem_append_right _ (List.mem_append_left _ (show _ ∈ my_202_3 from List.mem_of_getElem? (i := 46) rfl)))))
theorem cd_202_404 : mt_cd 202 404 = some (.iload 4) := mt_cd_of (q := (404, .iload 4, 2)) mq_202 ci_202 (List.mem_append_right _ (List.mem_append_right _ (List.mem_append_right _ (List.mem_append_left _ (show _ ∈ my_202_3 from List.mem_of_getElem? (i := 47) rfl)))))
theorem cd_202_406 : mt_cd 202 406 = some (.iconst 2) := mt_cd_of (q := (406, .iconst 2, 1)) mq_202 ci_202 (List.mem_append_right _ (List.mem_append_right _ (List.mem_append_right _ (List.mem_append_left _ (show _ ∈ my_202_3 from List.mem_of_getElem? (i := 48) rfl)))))
theorem cd_202_407 : mt_cd 202 407 = some (.iadd) := mt_cd_of (q := (407, .iadd, 1)) mq_202 ci_202 (List.mem_append_right _ (List.mem_append_right _ (List.mem_append_right _ (List.mem_append_left _ (show _ ∈ my_202_3 from List.mem_of_getElem? (i := 49) rfl)))))
theorem cd_202_408 : mt_cd 202 408 = some (.iaload) := mt_cd_of (q := (408, .iaload, 1)) mq_202 ci_202 (List.mem_append_right _ (List.mem_append_right _ (List.mem_append_right _ (List.mem_append_left _ (show _ ∈ my_202_3 from List.mem_of_getElem? (i := 50) rfl)))))
theorem cd_202_409 : mt_cd 202 409 = some (.aload_n 0) := mt_cd_of (q := (409, .aload_n 0, 1)) mq_202 ci_202 (List.mem_append_right _ (List.mem_append_right _ (List.mem_append_right _ (List.mem_append_left _ (show _ ∈ my_202_3 from List.mem_of_getElem? (i := 51) rfl)))))
theorem cd_202_410 : mt_cd 202 410 = some (.iload 4) := mt_cd_of (q := (410, .iload 4, 2)) mq_202 ci_202 (List.mem_append_right _ (List.mem_append_right _ (List.mem_append_right _ (List.mem_append_left _ (show _ ∈ my_202_3 from List.mem_of_getElem? (i := 52) rfl)))))
theorem cd_202_412 : mt_cd 202 412 = some (.iconst 3) := mt_cd_of (q := (412, .iconst 3, 1)) mq_202 ci_202 (List.mem_append_right _ (List.mem_append_right _ (List.mem_append_right _ (List.mem_append_left _ (show _ ∈ my_202_3 from List.mem_of_getElem? (i := 53) rfl)))))
theorem cd_202_413 : mt_cd 202 413 = some (.iadd) := mt_cd_of (q := (413, .iadd, 1)) mq_202 ci_202 (List.mem_append_right _ (List.mem_append_right _ (List.mem_append_right _ (List.mem_append_left _ (show _ ∈ my_202_3 from List.mem_of_getElem? (i := 54) rfl)))))
theorem cd_202_414 : mt_cd 202 414 = some (.iaload) := mt_cd_of (q := (414, .iaload, 1)) mq_202 ci_202 (List.mem_append_right _ (List.mem_append_right _ (List.mem_append_right _ (List.mem_append_left _ (show _ ∈ my_202_3 from List.mem_of_getElem? (i := 55) rfl)))))
theorem cd_202_415 : mt_cd 202 415 = some (.aload_n 0) := mt_cd_of (q := (415, .aload_n 0, 1)) mq_202 ci_202 (List.mem_append_right _ (List.mem_append_right _ (List.mem_append_right _ (List.mem_append_left _ (show _ ∈ my_202_3 from List.mem_of_getElem? (i := 56) rfl)))))
theorem cd_202_416 : mt_cd 202 416 = some (.iload 4) := mt_cd_of (q := (416, .iload 4, 2)) mq_202 ci_202 (List.mem_append_right _ (List.mem_append_right _ (List.mem_append_right _ (List.mem_append_left _ (show _ ∈ my_202_3 from List.mem_of_getElem? (i := 57) rfl)))))
theorem cd_202_418 : mt_cd 202 418 = some (.iconst 4) := mt_cd_of (q := (418, .iconst 4, 1)) mq_202 ci_202 (List.mem_append_right _ (List.mem_append_right _ (List.mem_append_right _ (List.mem_append_left _ (show _ ∈ my_202_3 from List.mem_of_getElem? (i := 58) rfl)))))
theorem cd_202_419 : mt_cd 202 419 = some (.iadd) := mt_cd_of (q := (419, .iadd, 1)) mq_202 ci_202 (List.mem_append_right _ (List.mem_append_right _ (List.mem_append_right _ (List.mem_append_left _ (show _ ∈ my_202_3 from List.mem_of_getElem? (i := 59) rfl)))))
theorem cd_202_420 : mt_cd 202 420 = some (.iaload) := mt_cd_of (q := (420, .iaload, 1)) mq_202 ci_202 (List.mem_append_right _ (List.mem_append_right _ (List.mem_append_right _ (List.mem_append_right _ (List.mem_append_left _ (show _ ∈ my_202_4 from List.mem_of_getElem? (i := 0) rfl))))))
theorem cd_202_421 : mt_cd 202 421 = some (.i2l) := mt_cd_of (q := (421, .i2l, 1)) mq_202 ci_202 (List.mem_append_right _ (List.mem_append_right _ (List.mem_append_right _ (List.mem_append_right _ (List.mem_append_left _ (show _ ∈ my_202_4 from List.mem_of_getElem? (i := 1) rfl))))))
theorem cd_202_422 : mt_cd 202 422 = some (.bipush 32) := mt_cd_of (q := (422, .bipush 32, 2)) mq_202 ci_202 (List.mem_append_right _ (List.mem_append_right _ (List.mem_append_right _ (List.mem_append_right _ (List.mem_append_left _ (show _ ∈ my_202_4 from List.mem_of_getElem? (i := 2) rfl))))))
theorem cd_202_424 : mt_cd 202 424 = some (.lshl) := mt_cd_of (q := (424, .lshl, 1)) mq_202 ci_202 (List.mem_append_right _ (List.mem_append_right _ (List.mem_append_right _ (List.mem_append_right _ (List.mem_append_left _ (show _ ∈ my_202_4 from List.mem_of_getElem? (i := 3) rfl))))))
theorem cd_202_425 : mt_cd 202 425 = some (.aload_n 0) := mt_cd_of (q := (425, .aload_n 0, 1)) mq_202 ci_202 (List.mem_append_right _ (List.mem_append_right _ (List.mem_append_right _ (List.mem_append_right _ (List.mem_append_left _ (show _ ∈ my_202_4 from List.mem_of_getElem? (i := 4) rfl))))))
theorem cd_202_426 : mt_cd 202 426 = some (.iload 4) := mt_cd_of (q := (426, .iload 4, 2)) mq_202 ci_202 (List.mem_append_right _ (List.mem_append_right _ (List.mem_append_right _ (List.mem_append_right _ (List.mem_append_left _ (show _ ∈ my_202_4 from List.mem_of_getElem? (i := 5) rfl))))))
theorem cd_202_428 : mt_cd 202 428 = some (.iconst 5) := mt_cd_of (q := (428, .iconst 5, 1)) mq_202 ci_202 (List.mem_append_right _ (List.mem_append_right _ (List.mem_append_right _ (List.mem_append_right _ (List.mem_append_left _ (show _ ∈ my_202_4 from List.mem_of_getElem? (i := 6) rfl))))))
theorem cd_202_429 : mt_cd 202 429 = some (.iadd) := mt_cd_of (q := (429, .iadd, 1)) mq_202 ci_202 (List.mem_append_right _ (List.mem_append_right _ (List.mem_append_right _ (List.mem_append_right _ (List.mem_append_left _ (show _ ∈ my_202_4 from List.mem_of_getElem? (i := 7) rfl))))))
theorem cd_202_430 : mt_cd 202 430 = some (.iaload) := mt_cd_of (q := (430, .iaload, 1)) mq_202 ci_202 (List.mem_append_right _ (List.mem_append_right _ (List.mem_append_right _ (List.mem_append_right _ (List.mem_append_left _ (show _ ∈ my_202_4 from List.mem_of_getElem? (i := 8) rfl))))))
theorem cd_202_431 : mt_cd 202 431 = some (.i2l) := mt_cd_of (q := (431, .i2l, 1)) mq_202 ci_202 (List.mem_append_right _ (List.mem_append_right _ (List.mem_append_right _ (List.mem_append_right _ (List.mem_append_left _ (show _ ∈ my_202_4 from List.mem_of_getElem? (i := 9) rfl))))))
theorem cd_202_432 : mt_cd 202 432 = some (.ldc2_w 86) := mt_cd_of (q := (432, .ldc2_w 86, 3)) mq_202 ci_202 (List.mem_append_right _ (List.mem_append_right _ (List.mem_append_right _ (List.mem_append_right _ (List.mem_append_left _ (show _ ∈ my_202_4 from List.mem_of_getElem? (i := 10) rfl))))))
theorem cd_202_435 : mt_cd 202 435 = some (.land) := mt_cd_of (q := (435, .land, 1)) mq_202 ci_202 (List.mem_append_right _ (List.mem_append_right _ (List.mem_append_right _ (List.mem_append_right _ (List.mem_append_left _ (show _ ∈ my_202_4 from List.mem_of_getElem? (i := 11) rfl))))))
theorem cd_202_436 : mt_cd 202 436 = some (.lor) := mt_cd_of (q := (436, .lor, 1)) mq_202 ci_202 (List.mem_append_right _ (List.mem_append_right _ (List.mem_append_right _ (List.mem_append_right _ (List.mem_append_left _ (show _ ∈ my_202_4 from List.mem_of_getElem? (i := 12) rfl))))))
theorem cd_202_437 : mt_cd 202 437 = some (.aload_n 3) := mt_cd_of (q := (437, .aload_n 3, 1)) mq_202 ci_202 (List.mem_append_right _ (List.mem_append_right _ (List.mem_append_right _ (List.mem_append_right _ (List.mem_append_left _ (show _ ∈ my_202_4 from List.mem_of_getElem? (i := 13) rfl))))))
theorem cd_202_438 : mt_cd 202 438 = some (.invokestatic 92) := mt_cd_of (q := (438, .invokestatic 92, 3)) mq_202 ci_202 (List.mem_append_right _ (List.mem_append_right _ (List.mem_append_right _ (List.mem_append_right _ (List.mem_append_left _ (show _ ∈ my_202_4 from List.mem_of_getElem? (i := 14) rfl))))))
theorem cd_202_441 : mt_cd 202 441 = some (.istore 5) := mt_cd_of (q := (441, .istore 5, 2)) mq_202 ci_202 (List.mem_append_right _ (List.mem_append_right _ (List.mem_append_right _ (List.mem_append_right _ (List.mem_append_left _ (show _ ∈ my_202_4 from List.mem_of_getElem? (i := 15) rfl))))))
theorem cd_202_443 : mt_cd 202 443 = some (.aload_n 2) := mt_cd_of (q := (443, .aload_n 2, 1)) mq_202 ci_202 (List.mem_append_right _ (List.mem_append_right _ (List.mem_append_right _ (List.mem_append_right _ (List.mem_append_left _ (show _ ∈ my_202_4 from List.mem_of_getElem? (i := 16) rfl))))))
theorem cd_202_444 : mt_cd 202 444 = some (.aload_n 0) := mt_cd_of (q := (444, .aload_n 0, 1)) mq_202 ci_202 (List.mem_append_right _ (List.mem_append_right _ (List.mem_append_right _ (List.mem_append_right _ (List.mem_append_left _ (show _ ∈ my_202_4 from List.mem_of_getElem? (i := 17) rfl))))))
theorem cd_202_445 : mt_cd 202 445 = some (.iload 4) := mt_cd_of (q := (445, .iload 4, 2)) mq_202 ci_202 (List.mem_append_right _ (List.mem_append_right _ (List.mem_append_right _ (List.mem_append_right _ (List.mem_append_left _ (show _ ∈ my_202_4 from List.mem_of_getElem? (i := 18) rfl))))))
theorem cd_202_447 : mt_cd 202 447 = some (.iconst 1) := mt_cd_of (q := (447, .iconst 1, 1)) mq_202 ci_202 (List.mem_append_right _ (List.mem_append_right _ (List.mem_append_right _ (List.mem_append_right _ (List.mem_append_left _ (show _ ∈ my_202_4 from List.mem_of_getElem? (i := 19) rfl))))))
theorem cd_202_448 : mt_cd 202 448 = some (.iadd) := mt_cd_of (q := (448, .iadd, 1)) mq_202 ci_202 (List.mem_append_right _ (List.mem_append_right _ (List.mem_append_right _ (List.mem_append_right _ (List.mem_append_left _ (show _ ∈ my_202_4 from List.mem_of_getElem? (i := 20) rfl))))))
theorem cd_202_449 : mt_cd 202 449 = some (.iaload) := mt_cd_of (q := (449, .iaload, 1)) mq_202 ci_202 (List.mem_append_right _ (List.mem_append_right _ (List.mem_append_right _ (List.mem_append_right _ (List.mem_append_left _ (show _ ∈ my_202_4 from List.mem_of_getElem? (i := 21) rfl))))))
theorem cd_202_450 : mt_cd 202 450 = some (.aload_n 0) := mt_cd_of (q := (450, .aload_n 0, 1)) mq_202 ci_202 (List.mem_append_right _ (List.mem_append_right _ (List.mem_append_right _ (List.mem_append_right _ (List.mem_append_left _ (show _ ∈ my_202_4 from List.mem_of_getElem? (i := 22) rfl))))))
theorem cd_202_451 : mt_cd 202 451 = some (.iload 4) := mt_cd_of (q := (451, .iload 4, 2)) mq_202 ci_202 (List.mem_append_right _ (List.mem_append_right _ (List.mem_append_right _ (List.mem_append_right _ (List.mem_append_left _ (show _ ∈ my_202_4 from List.mem_of_getElem? (i := 23) rfl))))))
theorem cd_202_453 : mt_cd 202 453 = some (.iconst 2) := mt_cd_of (q := (453, .iconst 2, 1)) mq_202 ci_202 (List.mem_append_right _ (List.mem_append_right _ (List.mem_append_right _ (List.mem_append_right _ (List.mem_append_left _ (show _ ∈ my_202_4 from List.mem_of_getElem? (i := 24) rfl))))))
theorem cd_202_454 : mt_cd 202 454 = some (.iadd) := mt_cd_of (q := (454, .iadd, 1)) mq_202 ci_202 (List.mem_append_right _ (List.mem_append_right _ (List.mem_append_right _ (List.mem_append_right _ (List.mem_append_left _ (show _ ∈ my_202_4 from List.mem_of_getElem? (i := 25) rfl))))))
theorem cd_202_455 : mt_cd 202 455 = some (.iaload) := mt_cd_of (q := (455, .iaload, 1)) mq_202 ci_202 (List.mem_append_right _ (List.mem_append_right _ (List.mem_append_right _ (List.mem_append_right _ (List.mem_append_left _ (show _ ∈ my_202_4 from List.mem_of_getElem? (i := 26) rfl))))))
theorem cd_202_456 : mt_cd 202 456 = some (.aload_n 0) := mt_cd_of (q := (456, .aload_n 0, 1)) mq_202 ci_202 (List.mem_append_right _ (List.mem_append_right _ (List.mem_append_right _ (List.mem_append_right _ (List.mem_append_left _ (show _ ∈ my_202_4 from List.mem_of_getElem? (i := 27) rfl))))))
theorem cd_202_457 : mt_cd 202 457 = some (.iload 4) := mt_cd_of (q := (457, .iload 4, 2)) mq_202 ci_202 (List.mem_append_right _ (List.mem_append_right _ (List.mem_append_right _ (List.mem_append_right _ (List.mem_append_left _ (show _ ∈ my_202_4 from List.mem_of_getElem? (i := 28) rfl))))))
theorem cd_202_459 : mt_cd 202 459 = some (.iconst 3) := mt_cd_of (q := (459, .iconst 3, 1)) mq_202 ci_202 (List.mem_append_right _ (List.mem_append_right _ (List.mem_append_right _ (List.mem_append_right _ (List.mem_append_left _ (show _ ∈ my_202_4 from List.mem_of_getElem? (i := 29) rfl))))))
theorem cd_202_460 : mt_cd 202 460 = some (.iadd) := mt_cd_of (q := (460, .iadd, 1)) mq_202 ci_202 (List.mem_append_right _ (List.mem_append_right _ (List.mem_append_right _ (List.mem_append_right _ (List.mem_append_left _ (show _ ∈ my_202_4 from List.mem_of_getElem? (i := 30) rfl))))))
theorem cd_202_461 : mt_cd 202 461 = some (.iaload) := mt_cd_of (q := (461, .iaload, 1)) mq_202 ci_202 (List.mem_append_right _ (List.mem_append_right _ (List.mem_append_right _ (List.mem_append_right _ (List.mem_append_left _ (show _ ∈ my_202_4 from List.mem_of_getElem? (i := 31) rfl))))))
theorem cd_202_462 : mt_cd 202 462 = some (.aload_n 0) := mt_cd_of (q := (462, .aload_n 0, 1)) mq_202 ci_202 (List.mem_append_right _ (List.mem_append_right _ (List.mem_append_right _ (List.mem_append_right _ (List.mem_append_left _ (show _ ∈ my_202_4 from List.mem_of_getElem? (i := 32) rfl))))))
theorem cd_202_463 : mt_cd 202 463 = some (.iload 4) := mt_cd_of (q := (463, .iload 4, 2)) mq_202 ci_202 (List.mem_append_right _ (List.mem_append_right _ (List.mem_append_right _ (List.mem_append_right _ (List.mem_append_left _ (show _ ∈ my_202_4 from List.mem_of_getElem? (i := 33) rfl))))))
theorem cd_202_465 : mt_cd 202 465 = some (.iconst 4) := mt_cd_of (q := (465, .iconst 4, 1)) mq_202 ci_202 (List.mem_append_right _ (List.mem_append_right _ (List.mem_append_right _ (List.mem_append_right _ (List.mem_append_left _ (show _ ∈ my_202_4 from List.mem_of_getElem? (i := 34) rfl))))))
theorem cd_202_466 : mt_cd 202 466 = some (.iadd) := mt_cd_of (q := (466, .iadd, 1)) mq_202 ci_202 (List.mem_append_right _ (List.mem_append_right _ (List.mem_append_right _ (List.mem_append_right _ (List.mem_append_left _ (show _ ∈ my_202_4 from List.mem_of_getElem? (i := 35) rfl))))))
theorem cd_202_467 : mt_cd 202 467 = some (.iaload) := mt_cd_of (q := (467, .iaload, 1)) mq_202 ci_202 (List.mem_append_right _ (List.mem_append_right _ (List.mem_append_right _ (List.mem_append_right _ (List.mem_append_left _ (show _ ∈ my_202_4 from List.mem_of_getElem? (i := 36) rfl))))))
theorem cd_202_468 : mt_cd 202 468 = some (.i2l) := mt_cd_of (q := (468, .i2l, 1)) mq_202 ci_202 (List.mem_append_right _ (List.mem_append_right _ (List.mem_append_right _ (List.mem_append_right _ (List.mem_append_left _ (show _ ∈ my_202_4 from List.mem_of_getElem? (i := 37) rfl))))))
theorem cd_202_469 : mt_cd 202 469 = some (.bipush 32) := mt_cd_of (q := (469, .bipush 32, 2)) mq_202 ci_202 (List.mem_append_right _ (List.mem_append_right _ (List.mem_append_right _ (List.mem_append_right _ (List.mem_append_left _ (show _ ∈ my_202_4 from List.mem_of_getElem? (i := 38) rfl))))))
theorem cd_202_471 : mt_cd 202 471 = some (.lshl) := mt_cd_of (q := (471, .lshl, 1)) mq_202 ci_202 (List.mem_append_right _ (List.mem_append_right _ (List.mem_append_right _ (List.mem_append_right _ (List.mem_append_left _ (show _ ∈ my_202_4 from List.mem_of_getElem? (i := 39) rfl))))))
theorem cd_202_472 : mt_cd 202 472 = some (.aload_n 0) := mt_cd_of (q := (472, .aload_n 0, 1)) mq_202 ci_202 (List.mem_append_right _ (List.mem_append_right _ (List.mem_append_right _ (List.mem_append_right _ (List.mem_append_left _ (show _ ∈ my_202_4 from List.mem_of_getElem? (i := 40) rfl))))))
theorem cd_202_473 : mt_cd 202 473 = some (.iload 4) := mt_cd_of (q := (473, .iload 4, 2)) mq_202 ci_202 (List.mem_append_right _ (List.mem_append_right _ (List.mem_append_right _ (List.mem_append_right _ (List.mem_append_left _ (show _ ∈ my_202_4 from List.mem_of_getElem? (i := 41) rfl))))))
theorem cd_202_475 : mt_cd 202 475 = some (.iconst 5) := mt_cd_of (q := (475, .iconst 5, 1)) mq_202 ci_202 (List.mem_append_right _ (List.mem_append_right _ (List.mem_append_right _ (List.mem_append_right _ (List.mem_append_left _ (show _ ∈ my_202_4 from List.mem_of_getElem? (i := 42) rfl))))))
theorem cd_202_476 : mt_cd 202 476 = some (.iadd) := mt_cd_of (q := (476, .iadd, 1)) mq_202 ci_202 (List.mem_append_right _ (List.mem_append_right _ (List.mem_append_right _ (List.mem_append_right _ (List.mem_append_left _ (show _ ∈ my_202_4 from List.mem_of_getElem? (i := 43) rfl))))))
theorem cd_202_477 : mt_cd 202 477 = some (.iaload) := mt_cd_of (q := (477, .iaload, 1)) mq_202 ci_202 (List.mem_append_right _ (List.mem_append_right _ (List.mem_append_right _ (List.mem_append_right _ (List.mem_append_left _ (show _ ∈ my_202_4 from List.mem_of_getElem? (i := 44) rfl))))))
theorem cd_202_478 : mt_cd 202 478 = some (.i2l) := mt_cd_of (q := (478, .i2l, 1)) mq_202 ci_202 (List.mem_append_right _ (List.mem_append_right _ (List.mem_append_right _ (List.mem_append_right _ (List.mem_append_left _ (show _ ∈ my_202_4 from List.mem_of_getElem? (i := 45) rfl))))))
theorem cd_202_479 : mt_cd 202 479 = some (.ldc2_w 86) := mt_cd_of (q := (479, .ldc2_w 86, 3)) mq_202 ci_202 (List.mem_append_right _ (List.mem_append_right _ (List.mem_append_right _ (List.mem_append_right _ (List.mem_append_left _ (show _ ∈ my_202_4 from List.mem_of_getElem? (i := 46) rfl))))))
theorem cd_202_482 : mt_cd 202 482 = some (.land) := mt_cd_of (q := (482, .land, 1)) mq_202 ci_202 (List.mem_append_right _ (List.mem_append_right _ (List.mem_append_right _ (List.mem_append_right _ (List.mem_append_left _ (show _ ∈ my_202_4 from List.mem_of_getElem? (i := 47) rfl))))))
theorem cd_202_483 : mt_cd 202 483 = some (.lor) := mt_cd_of (q := (483, .lor, 1)) mq_202 ci_202 (List.mem_append_right _ (List.mem_append_right _ (List.mem_append_right _ (List.mem_append_right _ (List.mem_append_left _ (show _ ∈ my_202_4 from List.mem_of_getElem? (i := 48) rfl))))))
theorem cd_202_484 : mt_cd 202 484 = some (.invokevirtual 95) := mt_cd_of (q := (484, .invokevirtual 95, 3)) mq_202 ci_202 (List.mem_append_right _ (List.mem_append_right _ (List.mem_append_right _ (List.mem_append_right _ (List.mem_append_left _ (show _ ∈ my_202_4 from List.mem_of_getElem? (i := 49) rfl))))))
theorem cd_202_487 : mt_cd 202 487 = some (.istore 6) := mt_cd_of (q := (487, .istore 6, 2)) mq_202 ci_202 (List.mem_append_right _ (List.mem_append_right _ (List.mem_append_right _ (List.mem_append_right _ (List.mem_append_left _ (show _ ∈ my_202_4 from List.mem_of_getElem? (i := 50) rfl))))))
theorem cd_202_489 : mt_cd 202 489 = some (.aload_n 2) := mt_cd_of (q := (489, .aload_n 2, 1)) mq_202 ci_202 (List.mem_append_right _ (List.mem_append_right _ (List.mem_append_right _ (List.mem_append_right _ (List.mem_append_left _ (show _ ∈ my_202_4 from List.mem_of_getElem? (i := 51) rfl))))))
theorem cd_202_490 : mt_cd 202 490 = some (.invokevirtual 75) := mt_cd_of (q := (490, .invokevirtual 75, 3)) mq_202 ci_202 (List.mem_append_right _ (List.mem_append_right _ (List.mem_append_right _ (List.mem_append_right _ (List.mem_append_left _ (show _ ∈ my_202_4 from List.mem_of_getElem? (i := 52) rfl))))))
theorem cd_202_493 : mt_cd 202 493 = some (.iload 5) := mt_cd_of (q := (493, .iload 5, 2)) mq_202 ci_202 (List.mem_append_right _ (List.mem_append_right _ (List.mem_append_right _ (List.mem_append_right _ (List.mem_append_left _ (show _ ∈ my_202_4 from List.mem_of_getElem? (i := 53) rfl))))))
theorem cd_202_495 : mt_cd 202 495 = some (.if_icmp .eq 5) := mt_cd_of (q := (495, .if_icmp .eq 5, 3)) mq_202 ci_202 (List.mem_append_right _ (List.mem_append_right _ (List.mem_append_right _ (List.mem_append_right _ (List.mem_append_left _ (show _ ∈ my_202_4 from List.mem_of_getElem? (i := 54) rfl))))))
theorem cd_202_498 : mt_cd 202 498 = some (.iconst 0) := mt_cd_of (q := (498, .iconst 0, 1)) mq_202 ci_202 (List.mem_append_right _ (List.mem_append_right _ (List.mem_append_right _ (List.mem_append_right _ (List.mem_append_left _ (show _ ∈ my_202_4 from List.mem_of_getElem? (i := 55) rfl))))))
theorem cd_202_499 : mt_cd 202 499 = some (.ireturn) := mt_cd_of (q := (499, .ireturn, 1)) mq_202 ci_202 (List.mem_append_right _ (List.mem_append_right _ (List.mem_append_right _ (List.mem_append_right _ (List.mem_append_left _ (show _ ∈ my_202_4 from List.mem_of_getElem? (i := 56) rfl))))))
theorem cd_202_500 : mt_cd 202 500 = some (.iload 5) := mt_cd_of (q := (500, .iload 5, 2)) mq_202 ci_202 (List.mem_append_right _ (List.mem_append_right _ (List.mem_append_right _ (List.mem_append_right _ (List.mem_append_left _ (show _ ∈ my_202_4 from List.mem_of_getElem? (i := 57) rfl))))))
theorem cd_202_502 : mt_cd 202 502 = some (.ifCond .ne 15) := mt_cd_of (q := (502, .ifCond .ne 15, 3)) mq_202 ci_202 (List.mem_append_right _ (List.mem_append_right _ (List.mem_append_right _ (List.mem_append_right _ (List.mem_append_left _ (show _ ∈ my_202_4 from List.mem_of_getElem? (i := 58) rfl))))))
theorem cd_202_505 : mt_cd 202 505 = some (.aload_n 3) := mt_cd_of (q := (505, .aload_n 3, 1)) mq_202 ci_202 (List.mem_append_right _ (List.mem_append_right _ (List.mem_append_right _ (List.mem_append_right _ (List.mem_append_left _ (show _ ∈ my_202_4 from List.mem_of_getElem? (i := 59) rfl))))))
theorem cd_202_506 : mt_cd 202 506 = some (.iconst 0) := mt_cd_of (q := (506, .iconst 0, 1)) mq_202 ci_202 (List.mem_append_right _ (List.mem_append_right _ (List.mem_append_right _ (List.mem_append_right _ (List.mem_append_right _ (List.mem_append_left _ (show _ ∈ my_202_5 from List.mem_of_getElem? (i := 0) rfl)))))))
theorem cd_202_507 : mt_cd 202 507 = some (.laload) := mt_cd_of (q := (507, .laload, 1)) mq_202 ci_202 (List.mem_append_right _ (List.mem_append_right _ (List.mem_append_right _ (List.mem_append_right _ (List.mem_append_right _ (List.mem_append_left _ (show _ ∈ my_202_5 from List.mem_of_getElem? (i := 1) rfl)))))))
theorem cd_202_508 : mt_cd 202 508 = some (.iload 6) := mt_cd_of (q := (508, .iload 6, 2)) mq_202 ci_202 (List.mem_append_right _ (List.mem_append_right _ (List.mem_append_right _ (List.mem_append_right _ (List.mem_append_right _ (List.mem_append_left _ (show _ ∈ my_202_5 from List.mem_of_getElem? (i := 2) rfl)))))))
theorem cd_202_510 : mt_cd 202 510 = some (.i2l) := mt_cd_of (q := (510, .i2l, 1)) mq_202 ci_202 (List.mem_append_right _ (List.mem_append_right _ (List.mem_append_right _ (List.mem_append_right _ (List.mem_append_right _ (List.mem_append_left _ (show _ ∈ my_202_5 from List.mem_of_getElem? (i := 3) rfl)))))))
theorem cd_202_511 : mt_cd 202 511 = some (.lcmp) := mt_cd_of (q := (511, .lcmp, 1)) mq_202 ci_202 (List.mem_append_right _ (List.mem_append_right _ (List.mem_append_right _ (List.mem_append_right _ (List.mem_append_right _ (List.mem_append_left _ (show _ ∈ my_202_5 from List.mem_of_getElem? (i := 4) rfl)))))))
theorem cd_202_512 : mt_cd 202 512 = some (.ifCond .eq 5) := mt_cd_of (q := (512, .ifCond .eq 5, 3)) mq_202 ci_202 (List.mem_append_right _ (List.mem_append_right _ (List.mem_append_right _ (List.mem_append_right _ (List.mem_append_right _ (List.mem_append_left _ (show _ ∈ my_202_5 from List.mem_of_getElem? (i := 5) rfl)))))))
theorem cd_202_515 : mt_cd 202 515 = some (.iconst 0) := mt_cd_of (q := (515, .iconst 0, 1)) mq_202 ci_202 (List.mem_append_right _ (List.mem_append_right _ (List.mem_append_right _ (List.mem_append_right _ (List.mem_append_right _ (List.mem_append_left _ (show _ ∈ my_202_5 from List.mem_of_getElem? (i := 6) rfl)))))))
theorem cd_202_516 : mt_cd 202 516 = some (.ireturn) := mt_cd_of (q := (516, .ireturn, 1)) mq_202 ci_202 (List.mem_append_right _ (List.mem_append_right _ (List.mem_append_right _ (List.mem_append_right _ (List.mem_append_right _ (List.mem_append_left _ (show _ ∈ my_202_5 from List.mem_of_getElem? (i := 7) rfl)))))))
theorem cd_202_517 : mt_cd 202 517 = some (.goto 648) := mt_cd_of (q := (517, .goto 648, 3)) mq_202 ci_202 (List.mem_append_right _ (List.mem_append_right _ (List.mem_append_right _ (List.mem_append_right _ (List.mem_append_right _ (List.mem_append_left _ (show _ ∈ my_202_5 from List.mem_of_getElem? (i := 8) rfl)))))))
theorem cd_202_520 : mt_cd 202 520 = some (.aload_n 1) := mt_cd_of (q := (520, .aload_n 1, 1)) mq_202 ci_202 (List.mem_append_right _ (List.mem_append_right _ (List.mem_append_right _ (List.mem_append_right _ (List.mem_append_right _ (List.mem_append_left _ (show _ ∈ my_202_5 from List.mem_of_getElem? (i := 9) rfl)))))))
theorem cd_202_521 : mt_cd 202 521 = some (.aload_n 0) := mt_cd_of (q := (521, .aload_n 0, 1)) mq_202 ci_202 (List.mem_append_right _ (List.mem_append_right _ (List.mem_append_right _ (List.mem_append_right _ (List.mem_append_right _ (List.mem_append_left _ (show _ ∈ my_202_5 from List.mem_of_getElem? (i := 10) rfl)))))))
theorem cd_202_522 : mt_cd 202 522 = some (.iload 4) := mt_cd_of (q := (522, .iload 4, 2)) mq_202 ci_202 (List.mem_append_right _ (List.mem_append_right _ (List.mem_append_right _ (List.mem_append_right _ (List.mem_append_right _ (List.mem_append_left _ (show _ ∈ my_202_5 from List.mem_of_getElem? (i := 11) rfl)))))))
theorem cd_202_524 : mt_cd 202 524 = some (.iconst 1) := mt_cd_of (q := (524, .iconst 1, 1)) mq_202 ci_202 (List.mem_append_right _ (List.mem_append_right _ (List.mem_append_right _ (List.mem_append_right _ (List.mem_append_right _ (List.mem_append_left _ (show _ ∈ my_202_5 from List.mem_of_getElem? (i := 12) rfl)))))))
theorem cd_202_525 : mt_cd 202 525 = some (.iadd) := mt_cd_of (q := (525, .iadd, 1)) mq_202 ci_202 (List.mem_append_right _ (List.mem_append_right _ (List.mem_append_right _ (List.mem_append_right _ (List.mem_append_right _ (List.mem_append_left _ (show _ ∈ my_202_5 from List.mem_of_getElem? (i := 13) rfl)))))))
theorem cd_202_526 : mt_cd 202 526 = some (.iaload) := mt_cd_of (q := (526, .iaload, 1)) mq_202 ci_202 (List.mem_append_right _ (List.mem_append_right _ (List.mem_append_right _ (List.mem_append_right _ (List.mem_append_right _ (List.mem_append_left _ (show _ ∈ my_202_5 from List.mem_of_getElem? (i := 14) rfl)))))))
theorem cd_202_527 : mt_cd 202 527 = some (.aload_n 0) := mt_cd_of (q := (527, .aload_n 0, 1)) mq_202 ci_202 (List.mem_append_right _ (List.mem_append_right _ (List.mem_append_right _ (List.mem_append_right _ (List.mem_append_right _ (List.mem_append_left _ (show _ ∈ my_202_5 from List.mem_of_getElem? (i := 15) rfl)))))))
theorem cd_202_528 : mt_cd 202 528 = some (.iload 4) := mt_cd_of (q := (528, .iload 4, 2)) mq_202 ci_202 (List.mem_append_right _ (List.mem_append_right _ (List.mem_append_right _ (List.mem_append_right _ (List.mem_append_right _ (List.mem_append_left _ (show _ ∈ my_202_5 from List.mem_of_getElem? (i := 16) rfl)))))))
theorem cd_202_530 : mt_cd 202 530 = some (.iconst 2) := mt_cd_of (q := (530, .iconst 2, 1)) mq_202 ci_202 (List.mem_append_right _ (List.mem_append_right _ (List.mem_append_right _ (List.mem_append_right _ (List.mem_append_right _ (List.mem_append_left _ (show _ ∈ my_202_5 from List.mem_of_getElem? (i := 17) rfl)))))))
theorem cd_202_531 : mt_cd 202 531 = some (.iadd) := mt_cd_of (q := (531, .iadd, 1)) mq_202 ci_202 (List.mem_append_right _ (List.mem_append_right _ (List.mem_append_right _ (List.mem_append_right _ (List.mem_append_right _ (List.mem_append_left _ (show _ ∈ my_202_5 from List.mem_of_getElem? (i := 18) rfl)))))))
theorem cd_202_532 : mt_cd 202 532 = some (.iaload) := mt_cd_of (q := (532, .iaload, 1)) mq_202 ci_202 (List.mem_append_right _ (List.mem_append_right _ (List.mem_append_right _ (List.mem_append_right _ (List.mem_append_right _ (List.mem_append_left _ (show _ ∈ my_202_5 from List.mem_of_getElem? (i := 19) rfl)))))))
theorem cd_202_533 : mt_cd 202 533 = some (.i2l) := mt_cd_of (q := (533, .i2l, 1)) mq_202 ci_202 (List.mem_append_right _ (List.mem_append_right _ (List.mem_append_right _ (List.mem_append_right _ (List.mem_append_right _ (List.mem_append_left _ (show _ ∈ my_202_5 from List.mem_of_getElem? (i := 20) rfl)))))))
theorem cd_202_534 : mt_cd 202 534 = some (.bipush 32) := mt_cd_of (q := (534, .bipush 32, 2)) mq_202 ci_202 (List.mem_append_right _ (List.mem_append_right _ (List.mem_append_right _ (List.mem_append_right _ (List.mem_append_right _ (List.mem_append_left _ (show _ ∈ my_202_5 from List.mem_of_getElem? (i := 21) rfl)))))))
theorem cd_202_536 : mt_cd 202 536 = some (.lshl) := mt_cd_of (q := (536, .lshl, 1)) mq_202 ci_202 (List.mem_append_right _ (List.mem_append_right _ (List.mem_append_right _ (List.mem_append_right _ (List.mem_append_right _ (List.mem_append_left _ (show _ ∈ my_202_5 from List.mem_of_getElem? (i := 22) rfl)))))))
theorem cd_202_537 : mt_cd 202 537 = some (.aload_n 0) := mt_cd_of (q := (537, .aload_n 0, 1)) mq_202 ci_202 (List.mem_append_right _ (List.mem_append_right _ (List.mem_append_right _ (List.mem_append_right _ (List.mem_append_right _ (List.mem_append_left _ (show _ ∈ my_202_5 from List.mem_of_getElem? (i := 23) rfl)))))))
theorem cd_202_538 : mt_cd 202 538 = some (.iload 4) := mt_cd_of (q := (538, .iload 4, 2)) mq_202 ci_202 (List.mem_append_right _ (List.mem_append_right _ (List.mem_append_right _ (List.mem_append_right _ (List.mem_append_right _ (List.mem_append_left _ (show _ ∈ my_202_5 from List.mem_of_getElem? (i := 24) rfl)))))))
theorem cd_202_540 : mt_cd 202 540 = some (.iconst 3) := mt_cd_of (q := (540, .iconst 3, 1)) mq_202 ci_202 (List.mem_append_right _ (List.mem_append_right _ (List.mem_append_right _ (List.mem_append_right _ (List.mem_append_right _ (List.mem_append_left _ (show _ ∈ my_202_5 from List.mem_of_getElem? (i := 25) rfl)))))))
theorem cd_202_541 : mt_cd 202 541 = some (.iadd) := mt_cd_of (q := (541, .iadd, 1)) mq_202 ci_202 (List.mem_append_right _ (List.mem_append_right _ (List.mem_append_right _ (List.mem_append_right _ (List.mem_append_right _ (List.mem_append_left _ (show _ ∈ my_202_5 from List.mem_of_getElem? (i := 26) rfl)))))))
theorem cd_202_542 : mt_cd 202 542 = some (.iaload) := mt_cd_of (q := (542, .iaload, 1)) mq_202 ci_202 (List.mem_append_right _ (List.mem_append_right _ (List.mem_append_right _ (List.mem_append_right _ (List.mem_append_right _ (List.mem_append_left _ (show _ ∈ my_202_5 from List.mem_of_getElem? (i := 27) rfl)))))))
theorem cd_202_543 : mt_cd 202 543 = some (.i2l) := mt_cd_of (q := (543, .i2l, 1)) mq_202 ci_202 (List.mem_append_right _ (List.mem_append_right _ (List.mem_append_right _ (List.mem_append_right _ (List.mem_append_right _ (List.mem_append_left _ (show _ ∈ my_202_5 from List.mem_of_getElem? (i := 28) rfl)))))))
theorem cd_202_544 : mt_cd 202 544 = some (.ldc2_w 86) := mt_cd_of (q := (544, .ldc2_w 86, 3)) mq_202 ci_202 (List.mem_append_right _ (List.mem_append_right _ (List.mem_append_right _ (List.mem_append_right _ (List.mem_append_right _ (List.mem_append_left _ (show _ ∈ my_202_5 from List.mem_of_getElem? (i := 29) rfl)))))))
theorem cd_202_547 : mt_cd 202 547 = some (.land) := mt_cd_of (q := (547, .land, 1)) mq_202 ci_202 (List.mem_append_right _ (List.mem_append_right _ (List.mem_append_right _ (List.mem_append_right _ (List.mem_append_right _ (List.mem_append_left _ (show _ ∈ my_202_5 from List.mem_of_getElem? (i := 30) rfl)))))))
theorem cd_202_548 : mt_cd 202 548 = some (.lor) := mt_cd_of (q := (548, .lor, 1)) mq_202 ci_202 (List.mem_append_right _ (List.mem_append_right _ (List.mem_append_right _ (List.mem_append_right _ (List.mem_append_right _ (List.mem_append_left _ (show _ ∈ my_202_5 from List.mem_of_getElem? (i := 31) rfl)))))))
theorem cd_202_549 : mt_cd 202 549 = some (.aload_n 3) := mt_cd_of (q := (549, .aload_n 3, 1)) mq_202 ci_202 (List.mem_append_right _ (List.mem_append_right _ (List.mem_append_right _ (List.mem_append_right _ (List.mem_append_right _ (List.mem_append_left _ (show _ ∈ my_202_5 from List.mem_of_getElem? (i := 32) rfl)))))))
theorem cd_202_550 : mt_cd 202 550 = some (.invokestatic 96) := mt_cd_of (q := (550, .invokestatic 96, 3)) mq_202 ci_202 (List.mem_append_right _ (List.mem_append_right _ (List.mem_append_right _ (List.mem_append_right _ (List.mem_append_right _ (List.mem_append_left _ (show _ ∈ my_202_5 from List.mem_of_getElem? (i := 33) rfl)))))))
theorem cd_202_553 : mt_cd 202 553 = some (.istore 5) := mt_cd_of (q := (553, .istore 5, 2)) mq_202 ci_202 (List.mem_append_right _ (List.mem_append_right _ (List.mem_append_right _ (List.mem_append_right _ (List.mem_append_right _ (List.mem_append_left _ (show _ ∈ my_202_5 from List.mem_of_getElem? (i := 34) rfl)))))))
theorem cd_202_555 : mt_cd 202 555 = some (.aload_n 2) := mt_cd_of (q := (555, .aload_n 2, 1)) mq_202 ci_202 (List.mem_append_right _ (List.mem_append_right _ (List.mem_append_right _ (List.mem_append_right _ (List.mem_append_right _ (List.mem_append_left _ (show _ ∈ my_202_5 from List.mem_of_getElem? (i := 35) rfl)))))))
theorem cd_202_556 : mt_cd 202 556 = some (.aload_n 0) := mt_cd_of (q := (556, .aload_n 0, 1)) mq_202 ci_202 (List.mem_append_right _ (List.mem_append_right _ (List.mem_append_right _ (List.mem_append_right _ (List.mem_append_right _ (List.mem_append_left _ (show _ ∈ my_202_5 from List.mem_of_getElem? (i := 36) rfl)))))))
theorem cd_202_557 : mt_cd 202 557 = some (.iload 4) := mt_cd_of (q := (557, .iload 4, 2)) mq_202 ci_202 (List.mem_append_right _ (List.mem_append_right _ (List.mem_append_right _ (List.mem_append_right _ (List.mem_append_right _ (List.mem_append_left _ (show _ ∈ my_202_5 from List.mem_of_getElem? (i := 37) rfl)))))))
theorem cd_202_559 : mt_cd 202 559 = some (.iconst 1) := mt_cd_of (q := (559, .iconst 1, 1)) mq_202 ci_202 (List.mem_append_right _ (List.mem_append_right _ (List.mem_append_right _ (List.mem_append_right _ (List.mem_append_right _ (List.mem_append_left _ (show _ ∈ my_202_5 from List.mem_of_getElem? (i := 38) rfl)))))))
theorem cd_202_560 : mt_cd 202 560 = some (.iadd) := mt_cd_of (q := (560, .iadd, 1)) mq_202 ci_202 (List.mem_append_right _ (List.mem_append_right _ (List.mem_append_right _ (List.mem_append_right _ (List.mem_append_right _ (List.mem_append_left _ (show _ ∈ my_202_5 from List.mem_of_getElem? (i := 39) rfl)))))))
theorem cd_202_561 : mt_cd 202 561 = some (.iaload) := mt_cd_of (q := (561, .iaload, 1)) mq_202 ci_202 (List.mem_append_right _ (List.mem_append_right _ (List.mem_append_right _ (List.mem_append_right _ (List.mem_append_right _ (List.mem_append_left _ (show _ ∈ my_202_5 from List.mem_of_getElem? (i := 40) rfl)))))))
theorem cd_202_562 : mt_cd 202 562 = some (.aload_n 0) := mt_cd_of (q := (562, .aload_n 0, 1)) mq_202 ci_202 (List.mem_append_right _ (List.mem_append_right _ (List.mem_append_right _ (List.mem_append_right _ (List.mem_append_right _ (List.mem_append_left _ (show _ ∈ my_202_5 from List.mem_of_getElem? (i := 41) rfl)))))))
theorem cd_202_563 : mt_cd 202 563 = some (.iload 4) := mt_cd_of (q := (563, .iload 4, 2)) mq_202 ci_202 (List.mem_append_right _ (List.mem_append_right _ (List.mem_append_right _ (List.mem_append_right _ (List.mem_append_right _ (List.mem_append_left _ (show _ ∈ my_202_5 from List.mem_of_getElem? (i := 42) rfl)))))))
theorem cd_202_565 : mt_cd 202 565 = some (.iconst 2) := mt_cd_of (q := (565, .iconst 2, 1)) mq_202 ci_202 (List.mem_append_right _ (List.mem_append_right _ (List.mem_append_right _ (List.mem_append_right _ (List.mem_append_right _ (List.mem_append_left _ (show _ ∈ my_202_5 from List.mem_of_getElem? (i := 43) rfl)))))))
theorem cd_202_566 : mt_cd 202 566 = some (.iadd) := mt_cd_of (q := (566, .iadd, 1)) mq_202 ci_202 (List.mem_append_right _ (List.mem_append_right _ (List.mem_append_right _ (List.mem_append_right _ (List.mem_append_right _ (List.mem_append_left _ (show _ ∈ my_202_5 from List.mem_of_getElem? (i := 44) rfl)))))))
theorem cd_202_567 : mt_cd 202 567 = some (.iaload) := mt_cd_of (q := (567, .iaload, 1)) mq_202 ci_202 (List.mem_append_right _ (List.mem_append_right _ (List.mem_append_right _ (List.mem_append_right _ (List.mem_append_right _ (List.mem_append_left _ (show _ ∈ my_202_5 from List.mem_of_getElem? (i := 45) rfl)))))))
theorem cd_202_568 : mt_cd 202 568 = some (.i2l) := mt_cd_of (q := (568, .i2l, 1)) mq_202 ci_202 (List.mem_append_right _ (List.mem_append_right _ (List.mem_append_right _ (List.mem_append_right _ (List.mem_append_right _ (List.mem_append_left _ (show _ ∈ my_202_5 from List.mem_of_getElem? (i := 46) rfl)))))))
theorem cd_202_569 : mt_cd 202 569 = some (.bipush 32) := mt_cd_of (q := (569, .bipush 32, 2)) mq_202 ci_202 (List.mem_append_right _ (List.mem_append_right _ (List.mem_append_right _ (List.mem_append_right _ (List.mem_append_right _ (List.mem_append_left _ (show _ ∈ my_202_5 from List.mem_of_getElem? (i := 47) rfl)))))))
theorem cd_202_571 : mt_cd 202 571 = some (.lshl) := mt_cd_of (q := (571, .lshl, 1)) mq_202 ci_202 (List.mem_append_right _ (List.mem_append_right _ (List.mem_append_right _ (List.mem_append_right _ (List.mem_append_right _ (List.mem_append_left _ (show _ ∈ my_202_5 from List.mem_of_getElem? (i := 48) rfl)))))))
theorem cd_202_572 : mt_cd 202 572 = some (.aload_n 0) := mt_cd_of (q := (572, .aload_n 0, 1)) mq_202 ci_202 (List.mem_append_right _ (List.mem_append_right _ (List.mem_append_right _ (List.mem_append_right _ (List.mem_append_right _ (List.mem_append_left _ (show _ ∈ my_202_5 from List.mem_of_getElem? (i := 49) rfl)))))))
theorem cd_202_573 : mt_cd 202 573 = some (.iload 4) := mt_cd_of (q := (573, .iload 4, 2)) mq_202 ci_202 (List.mem_append_right _ (List.mem_append_right _ (List.mem_append_right _ (List.mem_append_right _ (List.mem_append_right _ (List.mem_append_left _ (show _ ∈ my_202_5 from List.mem_of_getElem? (i := 50) rfl)))))))
theorem cd_202_575 : mt_cd 202 575 = some (.iconst 3) := mt_cd_of (q := (575, .iconst 3, 1)) mq_202 ci_202 (List.mem_append_right _ (List.mem_append_right _ (List.mem_append_right _ (List.mem_append_right _ (List.mem_append_right _ (List.mem_append_left _ (show _ ∈ my_202_5 from List.mem_of_getElem? (i := 51) rfl)))))))
theorem cd_202_576 : mt_cd 202 576 = some (.iadd) := mt_cd_of (q := (576, .iadd, 1)) mq_202 ci_202 (List.mem_append_right _ (List.mem_append_right _ (List.mem_append_right _ (List.mem_append_right _ (List.mem_append_right _ (List.mem_append_left _ (show _ ∈ my_202_5 from List.mem_of_getElem? (i := 52) rfl)))))))
theorem cd_202_577 : mt_cd 202 577 = some (.iaload) := mt_cd_of (q := (577, .iaload, 1)) mq_202 ci_202 (List.mem_append_right _ (List.mem_append_right _ (List.mem_append_right _ (List.mem_append_right _ (List.mem_append_right _ (List.mem_append_left _ (show _ ∈ my_202_5 from List.mem_of_getElem? (i := 53) rfl)))))))
theorem cd_202_578 : mt_cd 202 578 = some (.i2l) := mt_cd_of (q := (578, .i2l, 1)) mq_202 ci_202 (List.mem_append_right _ (List.mem_append_right _ (List.mem_append_right _ (List.mem_append_right _ (List.mem_append_right _ (List.mem_append_left _ (show _ ∈ my_202_5 from List.mem_of_getElem? (i := 54) rfl)))))))
theorem cd_202_579 : mt_cd 202 579 = some (.ldc2_w 86) := mt_cd_of (q := (579, .ldc2_w 86, 3)) mq_202 ci_202 (List.mem_append_right _ (List.mem_append_right _ (List.mem_append_right _ (List.mem_append_right _ (List.mem_append_right _ (List.mem_append_left _ (show _ ∈ my_202_5 from List.mem_of_getElem? (i := 55) rfl)))))))
theorem cd_202_582 : mt_cd 202 582 = some (.land) := mt_cd_of (q := (582, .land, 1)) mq_202 ci_202 (List.mem_append_right _ (List.mem_append_right _ (List.mem_append_right _ (List.mem_append_right _ (List.mem_append_right _ (List.mem_append_left _ (show _ ∈ my_202_5 from List.mem_of_getElem? (i := 56) rfl)))))))
theorem cd_202_583 : mt_cd 202 583 = some (.lor) := mt_cd_of (q := (583, .lor, 1)) mq_202 ci_202 (List.mem_append_right _ (List.mem_append_right _ (List.mem_append_right _ (List.mem_append_right _ (List.mem_append_right _ (List.mem_append_left _ (show _ ∈ my_202_5 from List.mem_of_getElem? (i := 57) rfl)))))))
theorem cd_202_584 : mt_cd 202 584 = some (.invokevirtual 99) := mt_cd_of (q := (584, .invokevirtual 99, 3)) mq_202 ci_202 (List.mem_append_right _ (List.mem_append_right _ (List.mem_append_right _ (List.mem_append_right _ (List.mem_append_right _ (List.mem_append_left _ (show _ ∈ my_202_5 from List.mem_of_getElem? (i := 58) rfl)))))))
theorem cd_202_587 : mt_cd 202 587 = some (.istore 6) := mt_cd_of (q := (587, .istore 6, 2)) mq_202 ci_202 (List.mem_append_right _ (List.mem_append_right _ (List.mem_append_right _ (List.mem_append_right _ (List.mem_append_right _ (List.mem_append_left _ (show _ ∈ my_202_5 from List.mem_of_getElem? (i := 59) rfl)))))))
theorem cd_202_589 : mt_cd 202 589 = some (.aload_n 2) := mt_cd_of (q := (589, .aload_n 2, 1)) mq_202 ci_202 (List.mem_append_right _ (List.mem_append_right _ (List.mem_append_right _ (List.mem_append_right _ (List.mem_append_right _ (List.mem_append_right _ (List.mem_append_left _ (show _ ∈ my_202_6 from List.mem_of_getElem? (i := 0) rfl))))))))
theorem cd_202_590 : mt_cd 202 590 = some (.invokevirtual 75) := mt_cd_of (q := (590, .invokevirtual 75, 3)) mq_202 ci_202 (List.mem_append_right _ (List.mem_append_right _ (List.mem_append_right _ (List.mem_append_right _ (List.mem_append_right _ (List.mem_append_right _ (List.mem_append_left _ (show _ ∈ my_202_6 from List.mem_of_getElem? (i := 1) rfl))))))))
theorem cd_202_593 : mt_cd 202 593 = some (.iload 5) := mt_cd_of (q := (593, .iload 5, 2)) mq_202 ci_202 (List.mem_append_right _ (List.mem_append_right _ (List.mem_append_right _ (List.mem_append_right _ (List.mem_append_right _ (List.mem_append_right _ (List.mem_append_left _ (show _ ∈ my_202_6 from List.mem_of_getElem? (i := 2) rfl))))))))
theorem cd_202_595 : mt_cd 202 595 = some (.if_icmp .eq 5) := mt_cd_of (q := (595, .if_icmp .eq 5, 3)) mq_202 ci_202 (List.mem_append_right _ (List.mem_append_right _ (List.mem_append_right _ (List.mem_append_right _ (List.mem_append_right _ (List.mem_append_right _ (List.mem_append_left _ (show _ ∈ my_202_6 from List.mem_of_getElem? (i := 3) rfl))))))))
theorem cd_202_598 : mt_cd 202 598 = some (.iconst 0) := mt_cd_of (q := (598, .iconst 0, 1)) mq_202 ci_202 (List.mem_append_right _ (List.mem_append_right _ (List.mem_append_right _ (List.mem_append_right _ (List.mem_append_right _ (List.mem_append_right _ (List.mem_append_left _ (show _ ∈ my_202_6 from List.mem_of_getElem? (i := 4) rfl))))))))
theorem cd_202_599 : mt_cd 202 599 = some (.ireturn) := mt_cd_of (q := (599, .ireturn, 1)) mq_202 ci_202 (List.mem_append_right _ (List.mem_append_right _ (List.mem_append_right _ (List.mem_append_right _ (List.mem_append_right _ (List.mem_append_right _ (List.mem_append_left _ (show _ ∈ my_202_6 from List.mem_of_getElem? (i := 5) rfl))))))))
theorem cd_202_600 : mt_cd 202 600 = some (.iload 5) := mt_cd_of (q := (600, .iload 5, 2)) mq_202 ci_202 (List.mem_append_right _ (List.mem_append_right _ (List.mem_append_right _ (List.mem_append_right _ (List.mem_append_right _ (List.mem_append_right _ (List.mem_append_left _ (show _ ∈ my_202_6 from List.mem_of_getElem? (i := 6) rfl))))))))
theorem cd_202_602 : mt_cd 202 602 = some (.ifCond .ne 15) := mt_cd_of (q := (602, .ifCond .ne 15, 3)) mq_202 ci_202 (List.mem_append_right _ (List.mem_append_right _ (List.mem_append_right _ (List.mem_append_right _ (List.mem_append_right _ (List.mem_append_right _ (List.mem_append_left _ (show _ ∈ my_202_6 from List.mem_of_getElem? (i := 7) rfl))))))))
theorem cd_202_605 : mt_cd 202 605 = some (.aload_n 3) := mt_cd_of (q := (605, .aload_n 3, 1)) mq_202 ci_202 (List.mem_append_right _ (List.mem_append_right _ (List.mem_append_right _ (List.mem_append_right _ (List.mem_append_right _ (List.mem_append_right _ (List.mem_append_left _ (show _ ∈ my_202_6 from List.mem_of_getElem? (i := 8) rfl))))))))
theorem cd_202_606 : mt_cd 202 606 = some (.iconst 0) := mt_cd_of (q := (606, .iconst 0, 1)) mq_202 ci_202 (List.mem_append_right _ (List.mem_append_right _ (List.mem_append_right _ (List.mem_append_right _ (List.mem_append_right _ (List.mem_append_right _ (List.mem_append_left _ (show _ ∈ my_202_6 from List.mem_of_getElem? (i := 9) rfl))))))))
theorem cd_202_607 : mt_cd 202 607 = some (.laload) := mt_cd_of (q := (607, .laload, 1)) mq_202 ci_202 (List.mem_append_right _ (List.mem_append_right _ (List.mem_append_right _ (List.mem_append_right _ (List.mem_append_right _ (List.mem_append_right _ (List.mem_append_left _ (show _ ∈ my_202_6 from List.mem_of_getElem? (i := 10) rfl))))))))
theorem cd_202_608 : mt_cd 202 608 = some (.iload 6) := mt_cd_of (q := (608, .iload 6, 2)) mq_202 ci_202 (List.mem_append_right _ (List.mem_append_right _ (List.mem_append_right _ (List.mem_append_right _ (List.mem_append_right _ (List.mem_append_right _ (List.mem_append_left _ (show _ ∈ my_202_6 from List.mem_of_getElem? (i := 11) rfl))))))))
theorem cd_202_610 : mt_cd 202 610 = some (.i2l) := mt_cd_of (q := (610, .i2l, 1)) mq_202 ci_202 (List.mem_append_right _ (List.mem_append_right _ (List.mem_append_right _ (List.mem_append_right _ (List.mem_append_right _ (List.mem_append_right _ (List.mem_append_left _ (show _ ∈ my_202_6 from List.mem_of_getElem? (i := 12) rfl))))))))
theorem cd_202_611 : mt_cd 202 611 = some (.lcmp) := mt_cd_of (q := (611, .lcmp, 1)) mq_202 ci_202 (List.mem_append_right _ (List.mem_append_right _ (List.mem_append_right _ (List.mem_append_right _ (List.mem_append_right _ (List.mem_append_right _ (List.mem_append_left _ (show _ ∈ my_202_6 from List.mem_of_getElem? (i := 13) rfl))))))))
theorem cd_202_612 : mt_cd 202 612 = some (.ifCond .eq 5) := mt_cd_of (q := (612, .ifCond .eq 5, 3)) mq_202 ci_202 (List.mem_append_right _ (List.mem_append_right _ (List.mem_append_right _ (List.mem_append_right _ (List.mem_append_right _ (List.mem_append_right _ (List.mem_append_left _ (show _ ∈ my_202_6 from List.mem_of_getElem? (i := 14) rfl))))))))
theorem cd_202_615 : mt_cd 202 615 = some (.iconst 0) := mt_cd_of (q := (615, .iconst 0, 1)) mq_202 ci_202 (List.mem_append_right _ (List.mem_append_right _ (List.mem_append_right _ (List.mem_append_right _ (List.mem_append_right _ (List.mem_append_right _ (List.mem_append_left _ (show _ ∈ my_202_6 from List.mem_of_getElem? (i := 15) rfl))))))))
theorem cd_202_616 : mt_cd 202 616 = some (.ireturn) := mt_cd_of (q := (616, .ireturn, 1)) mq_202 ci_202 (List.mem_append_right _ (List.mem_append_right _ (List.mem_append_right _ (List.mem_append_right _ (List.mem_append_right _ (List.mem_append_right _ (List.mem_append_left _ (show _ ∈ my_202_6 from List.mem_of_getElem? (i := 16) rfl))))))))
theorem cd_202_617 : mt_cd 202 617 = some (.goto 548) := mt_cd_of (q := (617, .goto 548, 3)) mq_202 ci_202 (List.mem_append_right _ (List.mem_append_right _ (List.mem_append_right _ (List.mem_append_right _ (List.mem_append_right _ (List.mem_append_right _ (List.mem_append_left _ (show _ ∈ my_202_6 from List.mem_of_getElem? (i := 17) rfl))))))))
theorem cd_202_620 : mt_cd 202 620 = some (.aload_n 1) := mt_cd_of (q := (620, .aload_n 1, 1)) mq_202 ci_202 (List.mem_append_right _ (List.mem_append_right _ (List.mem_append_right _ (List.mem_append_right _ (List.mem_append_right _ (List.mem_append_right _ (List.mem_append_left _ (show _ ∈ my_202_6 from List.mem_of_getElem? (i := 18) rfl))))))))
theorem cd_202_621 : mt_cd 202 621 = some (.aload_n 3) := mt_cd_of (q := (621, .aload_n 3, 1)) mq_202 ci_202 (List.mem_append_right _ (List.mem_append_right _ (List.mem_append_right _ (List.mem_append_right _ (List.mem_append_right _ (List.mem_append_right _ (List.mem_append_left _ (show _ ∈ my_202_6 from List.mem_of_getElem? (i := 19) rfl))))))))
theorem cd_202_622 : mt_cd 202 622 = some (.invokestatic 100) := mt_cd_of (q := (622, .invokestatic 100, 3)) mq_202 ci_202 (List.mem_append_right _ (List.mem_append_right _ (List.mem_append_right _ (List.mem_append_right _ (List.mem_append_right _ (List.mem_append_right _ (List.mem_append_left _ (show _ ∈ my_202_6 from List.mem_of_getElem? (i := 20) rfl))))))))
theorem cd_202_625 : mt_cd 202 625 = some (.istore 5) := mt_cd_of (q := (625, .istore 5, 2)) mq_202 ci_202 (List.mem_append_right _ (List.mem_append_right _ (List.mem_append_right _ (List.mem_append_right _ (List.mem_append_right _ (List.mem_append_right _ (List.mem_append_left _ (show _ ∈ my_202_6 from List.mem_of_getElem? (i := 21) rfl))))))))
theorem cd_202_627 : mt_cd 202 627 = some (.aload_n 2) := mt_cd_of (q := (627, .aload_n 2, 1)) mq_202 ci_202 (List.mem_append_right _ (List.mem_append_right _ (List.mem_append_right _ (List.mem_append_right _ (List.mem_append_right _ (List.mem_append_right _ (List.mem_append_left _ (show _ ∈ my_202_6 from List.mem_of_getElem? (i := 22) rfl))))))))
theorem cd_202_628 : mt_cd 202 628 = some (.invokevirtual 103) := mt_cd_of (q := (628, .invokevirtual 103, 3)) mq_202 ci_202 (List.mem_append_right _ (List.mem_append_right _ (List.mem_append_right _ (List.mem_append_right _ (List.mem_append_right _ (List.mem_append_right _ (List.mem_append_left _ (show _ ∈ my_202_6 from List.mem_of_getElem? (i := 23) rfl))))))))
theorem cd_202_631 : mt_cd 202 631 = some (.istore 6) := mt_cd_of (q := (631, .istore 6, 2)) mq_202 ci_202 (List.mem_append_right _ (List.mem_append_right _ (List.mem_append_right _ (List.mem_append_right _ (List.mem_append_right _ (List.mem_append_right _ (List.mem_append_left _ (show _ ∈ my_202_6 from List.mem_of_getElem? (i := 24) rfl))))))))
theorem cd_202_633 : mt_cd 202 633 = some (.aload_n 2) := mt_cd_of (q := (633, .aload_n 2, 1)) mq_202 ci_202 (List.mem_append_right _ (List.mem_append_right _ (List.mem_append_right _ (List.mem_append_right _ (List.mem_append_right _ (List.mem_append_right _ (List.mem_append_left _ (show _ ∈ my_202_6 from List.mem_of_getElem? (i := 25) rfl))))))))
theorem cd_202_634 : mt_cd 202 634 = some (.invokevirtual 75) := mt_cd_of (q := (634, .invokevirtual 75, 3)) mq_202 ci_202 (List.mem_append_right _ (List.mem_append_right _ (List.mem_append_right _ (List.mem_append_right _ (List.mem_append_right _ (List.mem_append_right _ (List.mem_append_left _ (show _ ∈ my_202_6 from List.mem_of_getElem? (i := 26) rfl))))))))
theorem cd_202_637 : mt_cd 202 637 = some (.iload 5) := mt_cd_of (q := (637, .iload 5, 2)) mq_202 ci_202 (List.mem_append_right _ (List.mem_append_right _ (List.mem_append_right _ (List.mem_append_right _ (List.mem_append_right _ (List.mem_append_right _ (List.mem_append_left _ (show _ ∈ my_202_6 from List.mem_of_getElem? (i := 27) rfl))))))))
theorem cd_202_639 : mt_cd 202 639 = some (.if_icmp .eq 5) := mt_cd_of (q := (639, .if_icmp .eq 5, 3)) mq_202 ci_202 (List.mem_append_right _ (List.mem_append_right _ (List.mem_append_right _ (List.mem_append_right _ (List.mem_append_right _ (List.mem_append_right _ (List.mem_append_left _ (show _ ∈ my_202_6 from List.mem_of_getElem? (i := 28) rfl))))))))
theorem cd_202_642 : mt_cd 202 642 = some (.iconst 0) := mt_cd_of (q := (642, .iconst 0, 1)) mq_202 ci_202 (List.mem_append_right _ (List.mem_append_right _ (List.mem_append_right _ (List.mem_append_right _ (List.mem_append_right _ (List.mem_append_right _ (List.mem_append_left _ (show _ ∈ my_202_6 from List.mem_of_getElem? (i := 29) rfl))))))))
theorem cd_202_643 : mt_cd 202 643 = some (.ireturn) := mt_cd_of (q := (643, .ireturn, 1)) mq_202 ci_202 (List.mem_append_right _ (List.mem_append_right _ (List.mem_append_right _ (List.mem_append_right _ (List.mem_append_right _ (List.mem_append_right _ (List.mem_append_left _ (show _ ∈ my_202_6 from List.mem_of_getElem? (i := 30) rfl))))))))
theorem cd_202_644 : mt_cd 202 644 = some (.iload 5) := mt_cd_of (q := (644, .iload 5, 2)) mq_202 ci_202 (List.mem_append_right _ (List.mem_append_right _ (List.mem_append_right _ (List.mem_append_right _ (List.mem_append_right _ (List.mem_append_right _ (List.mem_append_left _ (show _ ∈ my_202_6 from List.mem_of_getElem? (i := 31) rfl))))))))
theorem cd_202_646 : mt_cd 202 646 = some (.ifCond .ne 15) := mt_cd_of (q := (646, .ifCond .ne 15, 3)) mq_202 ci_202 (List.mem_append_right _ (List.mem_append_right _ (List.mem_append_right _ (List.mem_append_right _ (List.mem_append_right _ (List.mem_append_right _ (List.mem_append_left _ (show _ ∈ my_202_6 from List.mem_of_getElem? (i := 32) rfl))))))))
theorem cd_202_649 : mt_cd 202 649 = some (.aload_n 3) := mt_cd_of (q := (649, .aload_n 3, 1)) mq_202 ci_202 (List.mem_append_right _ (List.mem_append_right _ (List.mem_append_right _ (List.mem_append_right _ (List.mem_append_right _ (List.mem_append_right _ (List.mem_append_left _ (show _ ∈ my_202_6 from List.mem_of_getElem? (i := 33) rfl))))))))
theorem cd_202_650 : mt_cd 202 650 = some (.iconst 0) := mt_cd_of (q := (650, .iconst 0, 1)) mq_202 ci_202 (List.mem_append_right _ (List.mem_append_right _ (List.mem_append_right _ (List.mem_append_right _ (List.mem_append_right _ (List.mem_append_right _ (List.mem_append_left _ (show _ ∈ my_202_6 from List.mem_of_getElem? (i := 34) rfl))))))))
theorem cd_202_651 : mt_cd 202 651 = some (.laload) := mt_cd_of (q := (651, .laload, 1)) mq_202 ci_202 (List.mem_append_right _ (List.mem_append_right _ (List.mem_append_right _ (List.mem_append_right _ (List.mem_append_right _ (List.mem_append_right _ (List.mem_append_left _ (show _ ∈ my_202_6 from List.mem_of_getElem? (i := 35) rfl))))))))
theorem cd_202_652 : mt_cd 202 652 = some (.iload 6) := mt_cd_of (q := (652, .iload 6, 2)) mq_202 ci_202 (List.mem_append_right _ (List.mem_append_right _ (List.mem_append_right _ (List.mem_append_right _ (List.mem_append_right _ (List.mem_append_right _ (List.mem_append_left _ (show _ ∈ my_202_6 from List.mem_of_getElem? (i := 36) rfl))))))))
theorem cd_202_654 : mt_cd 202 654 = some (.i2l) := mt_cd_of (q := (654, .i2l, 1)) mq_202 ci_202 (List.mem_append_right _ (List.mem_append_right _ (List.mem_append_right _ (List.mem_append_right _ (List.mem_append_right _ (List.mem_append_right _ (List.mem_append_left _ (show _ ∈ my_202_6 from List.mem_of_getElem? (i := 37) rfl))))))))
theorem cd_202_655 : mt_cd 202 655 = some (.lcmp) := mt_cd_of (q := (655, .lcmp, 1)) mq_202 ci_202 (List.mem_append_right _ (List.mem_append_right _ (List.mem_append_right _ (List.mem_append_right _ (List.mem_append_right _ (List.mem_append_right _ (List.mem_append_left _ (show _ ∈ my_202_6 from List.mem_of_getElem? (i := 38) rfl))))))))
theorem cd_202_656 : mt_cd 202 656 = some (.ifCond .eq 5) := mt_cd_of (q := (656, .ifCond .eq 5, 3)) mq_202 ci_202 (List.mem_append_right _ (List.mem_append_right _ (List.mem_append_right _ (List.mem_append_right _ (List.mem_append_right _ (List.mem_append_right _ (List.mem_append_left _ (show _ ∈ my_202_6 from List.mem_of_getElem? (i := 39) rfl))))))))
theorem cd_202_659 : mt_cd 202 659 = some (.iconst 0) := mt_cd_of (q := (659, .iconst 0, 1)) mq_202 ci_202 (List.mem_append_right _ (List.mem_append_right _ (List.mem_append_right _ (List.mem_append_right _ (List.mem_append_right _ (List.mem_append_right _ (List.mem_append_left _ (show _ ∈ my_202_6 from List.mem_of_getElem? (i := 40) rfl))))))))
theorem cd_202_660 : mt_cd 202 660 = some (.ireturn) := mt_cd_of (q := (660, .ireturn, 1)) mq_202 ci_202 (List.mem_append_right _ (List.mem_append_right _ (List.mem_append_right _ (List.mem_append_right _ (List.mem_append_right _ (List.mem_append_right _ (List.mem_append_left _ (show _ ∈ my_202_6 from List.mem_of_getElem? (i := 41) rfl))))))))
theorem cd_202_661 : mt_cd 202 661 = some (.goto 504) := mt_cd_of (q := (661, .goto 504, 3)) mq_202 ci_202 (List.mem_append_right _ (List.mem_append_right _ (List.mem_append_right _ (List.mem_append_right _ (List.mem_append_right _ (List.mem_append_right _ (List.mem_append_left _ (show _ ∈ my_202_6 from List.mem_of_getElem? (i := 42) rfl))))))))
theorem cd_202_664 : mt_cd 202 664 = some (.aload_n 1) := mt_cd_of (q := (664, .aload_n 1, 1)) mq_202 ci_202 (List.mem_append_right _ (List.mem_append_right _ (List.mem_append_right _ (List.mem_append_right _ (List.mem_append_right _ (List.mem_append_right _ (List.mem_append_left _ (show _ ∈ my_202_6 from List.mem_of_getElem? (i := 43) rfl))))))))
theorem cd_202_665 : mt_cd 202 665 = some (.aload_n 0) := mt_cd_of (q := (665, .aload_n 0, 1)) mq_202 ci_202 (List.mem_append_right _ (List.mem_append_right _ (List.mem_append_right _ (List.mem_append_right _ (List.mem_append_right _ (List.mem_append_right _ (List.mem_append_left _ (show _ ∈ my_202_6 from List.mem_of_getElem? (i := 44) rfl))))))))
theorem cd_202_666 : mt_cd 202 666 = some (.iload 4) := mt_cd_of (q := (666, .iload 4, 2)) mq_202 ci_202 (List.mem_append_right _ (List.mem_append_right _ (List.mem_append_right _ (List.mem_append_right _ (List.mem_append_right _ (List.mem_append_right _ (List.mem_append_left _ (show _ ∈ my_202_6 from List.mem_of_getElem? (i := 45) rfl))))))))
theorem cd_202_668 : mt_cd 202 668 = some (.iconst 1) := mt_cd_of (q := (668, .iconst 1, 1)) mq_202 ci_202 (List.mem_append_right _ (List.mem_append_right _ (List.mem_append_right _ (List.mem_append_right _ (List.mem_append_right _ (List.mem_append_right _ (List.mem_append_left _ (show _ ∈ my_202_6 from List.mem_of_getElem? (i := 46) rfl))))))))
theorem cd_202_669 : mt_cd 202 669 = some (.iadd) := mt_cd_of (q := (669, .iadd, 1)) mq_202 ci_202 (List.mem_append_right _ (List.mem_append_right _ (List.mem_append_right _ (List.mem_append_right _ (List.mem_append_right _ (List.mem_append_right _ (List.mem_append_left _ (show _ ∈ my_202_6 from List.mem_of_getElem? (i := 47) rfl))))))))
theorem cd_202_670 : mt_cd 202 670 = some (.iaload) := mt_cd_of (q := (670, .iaload, 1)) mq_202 ci_202 (List.mem_append_right _ (List.mem_append_right _ (List.mem_append_right _ (List.mem_append_right _ (List.mem_append_right _ (List.mem_append_right _ (List.mem_append_left _ (show _ ∈ my_202_6 from List.mem_of_getElem? (i := 48) rfl))))))))
theorem cd_202_671 : mt_cd 202 671 = some (.i2l) := mt_cd_of (q := (671, .i2l, 1)) mq_202 ci_202 (List.mem_append_right _ (List.mem_append_right _ (List.mem_append_right _ (List.mem_append_right _ (List.mem_append_right _ (List.mem_append_right _ (List.mem_append_left _ (show _ ∈ my_202_6 from List.mem_of_getElem? (i := 49) rfl))))))))
theorem cd_202_672 : mt_cd 202 672 = some (.bipush 32) := mt_cd_of (q := (672, .bipush 32, 2)) mq_202 ci_202 (List.mem_append_right _ (List.mem_append_right _ (List.mem_append_right _ (List.mem_append_right _ (List.mem_append_right _ (List.mem_append_right _ (List.mem_append_left _ (show _ ∈ my_202_6 from List.mem_of_getElem? (i := 50) rfl))))))))
theorem cd_202_674 : mt_cd 202 674 = some (.lshl) := mt_cd_of (q := (674, .lshl, 1)) mq_202 ci_202 (List.mem_append_right _ (List.mem_append_right _ (List.mem_append_right _ (List.mem_append_right _ (List.mem_append_right _ (List.mem_append_right _ (List.mem_append_left _ (show _ ∈ my_202_6 from List.mem_of_getElem? (i := 51) rfl))))))))
theorem cd_202_675 : mt_cd 202 675 = some (.aload_n 0) := mt_cd_of (q := (675, .aload_n 0, 1)) mq_202 ci_202 (List.mem_append_right _ (List.mem_append_right _ (List.mem_append_right _ (List.mem_append_right _ (List.mem_append_right _ (List.mem_append_right _ (List.mem_append_left _ (show _ ∈ my_202_6 from List.mem_of_getElem? (i := 52) rfl))))))))
theorem cd_202_676 : mt_cd 202 676 = some (.iload 4) := mt_cd_of (q := (676, .iload 4, 2)) mq_202 ci_202 (List.mem_append_right _ (List.mem_append_right _ (List.mem_append_right _ (List.mem_append_right _ (List.mem_append_right _ (List.mem_append_right _ (List.mem_append_left _ (show _ ∈ my_202_6 from List.mem_of_getElem? (i := 53) rfl))))))))
theorem cd_202_678 : mt_cd 202 678 = some (.iconst 2) := mt_cd_of (q := (678, .iconst 2, 1)) mq_202 ci_202 (List.mem_append_right _ (List.mem_append_right _ (List.mem_append_right _ (List.mem_append_right _ (List.mem_append_right _ (List.mem_append_right _ (List.mem_append_left _ (show _ ∈ my_202_6 from List.mem_of_getElem? (i := 54) rfl))))))))
theorem cd_202_679 : mt_cd 202 679 = some (.iadd) := mt_cd_of (q := (679, .iadd, 1)) mq_202 ci_202 (List.mem_append_right _ (List.mem_append_right _ (List.mem_append_right _ (List.mem_append_right _ (List.mem_append_right _ (List.mem_append_right _ (List.mem_append_left _ (show _ ∈ my_202_6 from List.mem_of_getElem? (i := 55) rfl))))))))
theorem cd_202_680 : mt_cd 202 680 = some (.iaload) := mt_cd_of (q := (680, .iaload, 1)) mq_202 ci_202 (List.mem_append_right _ (List.mem_append_right _ (List.mem_append_right _ (List.mem_append_right _ (List.mem_append_right _ (List.mem_append_right _ (List.mem_append_left _ (show _ ∈ my_202_6 from List.mem_of_getElem? (i := 56) rfl))))))))
theorem cd_202_681 : mt_cd 202 681 = some (.i2l) := mt_cd_of (q := (681, .i2l, 1)) mq_202 ci_202 (List.mem_append_right _ (List.mem_append_right _ (List.mem_append_right _ (List.mem_append_right _ (List.mem_append_right _ (List.mem_append_right _ (List.mem_append_left _ (show _ ∈ my_202_6 from List.mem_of_getElem? (i := 57) rfl))))))))
theorem cd_202_682 : mt_cd 202 682 = some (.ldc2_w 86) := mt_cd_of (q := (682, .ldc2_w 86, 3)) mq_202 ci_202 (List.mem_append_right _ (List.mem_append_right _ (List.mem_append_right _ (List.mem_append_right _ (List.mem_append_right _ (List.mem_append_right _ (List.mem_append_left _ (show _ ∈ my_202_6 from List.mem_of_getElem? (i := 58) rfl))))))))
theorem cd_202_685 : mt_cd 202 685 = some (.land) := mt_cd_of (q := (685, .land, 1)) mq_202 ci_202 (List.mem_append_right _ (List.mem_append_right _ (List.mem_append_right _ (List.mem_append_right _ (List.mem_append_right _ (List.mem_append_right _ (List.mem_append_left _ (show _ ∈ my_202_6 from List.mem_of_getElem? (i := 59) rfl))))))))
theorem cd_202_686 : mt_cd 202 686 = some (.lor) := mt_cd_of (q := (686, .lor, 1)) mq_202 ci_202 (List.mem_append_right _ (List.mem_append_right _ (List.mem_append_right _ (List.mem_append_right _ (List.mem_append_right _ (List.mem_append_right _ (List.mem_append_right _ (List.mem_append_left _ (show _ ∈ my_202_7 from List.mem_of_getElem? (i := 0) rfl)))))))))
theorem cd_202_687 : mt_cd 202 687 = some (.aload_n 0) := mt_cd_of (q := (687, .aload_n 0, 1)) mq_202 ci_202 (List.mem_append_right _ (List.mem_append_right _ (List.mem_append_right _ (List.mem_append_right _ (List.mem_append_right _ (List.mem_append_right _ (List.mem_append_right _ (List.mem_append_left _ (show _ ∈ my_202_7 from List.mem_of_getElem? (i := 1) rfl)))))))))
theorem cd_202_688 : mt_cd 202 688 = some (.iload 4) := mt_cd_of (q := (688, .iload 4, 2)) mq_202 ci_202 (List.mem_append_right _ (List.mem_append_right _ (List.mem_append_right _ (List.mem_append_right _ (List.mem_append_right _ (List.mem_append_right _ (List.mem_append_right _ (List.mem_append_left _ (show _ ∈ my_202_7 from List.mem_of_getElem? (i := 2) rfl)))))))))
theorem cd_202_690 : mt_cd 202 690 = some (.iconst 3) := mt_cd_of (q := (690, .iconst 3, 1)) mq_202 ci_202 (List.mem_append_right _ (List.mem_append_right _ (List.mem_append_right _ (List.mem_append_right _ (List.mem_append_right _ (List.mem_append_right _ (List.mem_append_right _ (List.mem_append_left _ (show _ ∈ my_202_7 from List.mem_of_getElem? (i := 3) rfl)))))))))
theorem cd_202_691 : mt_cd 202 691 = some (.iadd) := mt_cd_of (q := (691, .iadd, 1)) mq_202 ci_202 (List.mem_append_right _ (List.mem_append_right _ (List.mem_append_right _ (List.mem_append_right _ (List.mem_append_right _ (List.mem_append_right _ (List.mem_append_right _ (List.mem_append_left _ (show _ ∈ my_202_7 from List.mem_of_getElem? (i := 4) rfl)))))))))
theorem cd_202_692 : mt_cd 202 692 = some (.iaload) := mt_cd_of (q := (692, .iaload, 1)) mq_202 ci_202 (List.mem_append_right _ (List.mem_append_right _ (List.mem_append_right _ (List.mem_append_right _ (List.mem_append_right _ (List.mem_append_right _ (List.mem_append_right _ (List.mem_append_left _ (show _ ∈ my_202_7 from List.mem_of_getElem? (i := 5) rfl)))))))))
theorem cd_202_693 : mt_cd 202 693 = some (.i2l) := mt_cd_of (q := (693, .i2l, 1)) mq_202 ci_202 (List.mem_append_right _ (List.mem_append_right _ (List.mem_append_right _ (List.mem_append_right _ (List.mem_append_right _ (List.mem_append_right _ (List.mem_append_right _ (List.mem_append_left _ (show _ ∈ my_202_7 from List.mem_of_getElem? (i := 6) rfl)))))))))
theorem cd_202_694 : mt_cd 202 694 = some (.bipush 32) := mt_cd_of (q := (694, .bipush 32, 2)) mq_202 ci_202 (List.mem_append_right _ (List.mem_append_right _ (List.mem_append_right _ (List.mem_append_right _ (List.mem_append_right _ (List.mem_append_right _ (List.mem_append_right _ (List.mem_append_left _ (show _ ∈ my_202_7 from List.mem_of_getElem? (i := 7) rfl)))))))))
theorem cd_202_696 : mt_cd 202 696 = some (.lshl) := mt_cd_of (q := (696, .lshl, 1)) mq_202 ci_202 (List.mem_append_right _ (List.mem_append_right _ (List.mem_append_right _ (List.mem_append_right _ (List.mem_append_right _ (List.mem_append_right _ (List.mem_append_right _ (List.mem_append_left _ (show _ ∈ my_202_7 from List.mem_of_getElem? (i := 8) rfl)))))))))
theorem cd_202_697 : mt_cd 202 697 = some (.aload_n 0) := mt_cd_of (q := (697, .aload_n 0, 1)) mq_202 ci_202 (List.mem_append_right _ (List.mem_append_right _ (List.mem_append_right _ (List.mem_append_right _ (List.mem_append_right _ (List.mem_append_right _ (List.mem_append_right _ (List.mem_append_left _ (show _ ∈ my_202_7 from List.mem_of_getElem? (i := 9) rfl)))))))))
theorem cd_202_698 : mt_cd 202 698 = some (.iload 4) := mt_cd_of (q := (698, .iload 4, 2)) mq_202 ci_202 (List.mem_append_right _ (List.mem_append_right _ (List.mem_append_right _ (List.mem_append_right _ (List.mem_append_right _ (List.mem_append_right _ (List.mem_append_right _ (List.mem_append_left _ (show _ ∈ my_202_7 from List.mem_of_getElem? (i := 10) rfl)))))))))
theorem cd_202_700 : mt_cd 202 700 = some (.iconst 4) := mt_cd_of (q := (700, .iconst 4, 1)) mq_202 ci_202 (List.mem_append_right _ (List.mem_append_right _ (List.mem_append_right _ (List.mem_append_right _ (List.mem_append_right _ (List.mem_append_right _ (List.mem_append_right _ (List.mem_append_left _ (show _ ∈ my_202_7 from List.mem_of_getElem? (i := 11) rfl)))))))))
theorem cd_202_701 : mt_cd 202 701 = some (.iadd) := mt_cd_of (q := (701, .iadd, 1)) mq_202 ci_202 (List.mem_append_right _ (List.mem_append_right _ (List.mem_append_right _ (List.mem_append_right _ (List.mem_append_right _ (List.mem_append_right _ (List.mem_append_right _ (List.mem_append_left _ (show _ ∈ my_202_7 from List.mem_of_getElem? (i := 12) rfl)))))))))
theorem cd_202_702 : mt_cd 202 702 = some (.iaload) := mt_cd_of (q := (702, .iaload, 1)) mq_202 ci_202 (List.mem_append_right _ (List.mem_append_right _ (List.mem_append_right _ (List.mem_append_right _ (List.mem_append_right _ (List.mem_append_right _ (List.mem_append_right _ (List.mem_append_left _ (show _ ∈ my_202_7 from List.mem_of_getElem? (i := 13) rfl)))))))))
theorem cd_202_703 : mt_cd 202 703 = some (.i2l) := mt_cd_of (q := (703, .i2l, 1)) mq_202 ci_202 (List.mem_append_right _ (List.mem_append_right _ (List.mem_append_right _ (List.mem_append_right _ (List.mem_append_right _ (List.mem_append_right _ (List.mem_append_right _ (List.mem_append_left _ (show _ ∈ my_202_7 from List.mem_of_getElem? (i := 14) rfl)))))))))
theorem cd_202_704 : mt_cd 202 704 = some (.ldc2_w 86) := mt_cd_of (q := (704, .ldc2_w 86, 3)) mq_202 ci_202 (List.mem_append_right _ (List.mem_append_right _ (List.mem_append_right _ (List.mem_append_right _ (List.mem_append_right _ (List.mem_append_right _ (List.mem_append_right _ (List.mem_append_left _ (show _ ∈ my_202_7 from List.mem_of_getElem? (i := 15) rfl)))))))))
theorem cd_202_707 : mt_cd 202 707 = some (.land) := mt_cd_of (q := (707, .land, 1)) mq_202 ci_202 (List.mem_append_right _ (List.mem_append_right _ (List.mem_append_right _ (List.mem_append_right _ (List.mem_append_right _ (List.mem_append_right _ (List.mem_append_right _ (List.mem_append_left _ (show _ ∈ my_202_7 from List.mem_of_getElem? (i := 16) rfl)))))))))
theorem cd_202_708 : mt_cd 202 708 = some (.lor) := mt_cd_of (q := (708, .lor, 1)) mq_202 ci_202 (List.mem_append_right _ (List.mem_append_right _ (List.mem_append_right _ (List.mem_append_right _ (List.mem_append_right _ (List.mem_append_right _ (List.mem_append_right _ (List.mem_append_left _ (show _ ∈ my_202_7 from List.mem_of_getElem? (i := 17) rfl)))))))))
theorem cd_202_709 : mt_cd 202 709 = some (.aload_n 3) := mt_cd_of (q := (709, .aload_n 3, 1)) mq_202 ci_202 (List.mem_append_right _ (List.mem_append_right _ (List.mem_append_right _ (List.mem_append_right _ (List.mem_append_right _ (List.mem_append_right _ (List.mem_append_right _ (List.mem_append_left _ (show _ ∈ my_202_7 from List.mem_of_getElem? (i := 18) rfl)))))))))
theorem cd_202_710 : mt_cd 202 710 = some (.invokestatic 104) := mt_cd_of (q := (710, .invokestatic 104, 3)) mq_202 ci_202 (List.mem_append_right _ (List.mem_append_right _ (List.mem_append_right _ (List.mem_append_right _ (List.mem_append_right _ (List.mem_append_right _ (List.mem_append_right _ (List.mem_append_left _ (show _ ∈ my_202_7 from List.mem_of_getElem? (i := 19) rfl)))))))))
theorem cd_202_713 : mt_cd 202 713 = some (.istore 5) := mt_cd_of (q := (713, .istore 5, 2)) mq_202 ci_202 (List.mem_append_right _ (List.mem_append_right _ (List.mem_append_right _ (List.mem_append_right _ (List.mem_append_right _ (List.mem_append_right _ (List.mem_append_right _ (List.mem_append_left _ (show _ ∈ my_202_7 from List.mem_of_getElem? (i := 20) rfl)))))))))
theorem cd_202_715 : mt_cd 202 715 = some (.aload_n 2) := mt_cd_of (q := (715, .aload_n 2, 1)) mq_202 ci_202 (List.mem_append_right _ (List.mem_append_right _ (List.mem_append_right _ (List.mem_append_right _ (List.mem_append_right _ (List.mem_append_right _ (List.mem_append_right _ (List.mem_append_left _ (show _ ∈ my_202_7 from List.mem_of_getElem? (i := 21) rfl)))))))))
theorem cd_202_716 : mt_cd 202 716 = some (.aload_n 0) := mt_cd_of (q := (716, .aload_n 0, 1)) mq_202 ci_202 (List.mem_append_right _ (List.mem_append_right _ (List.mem_append_right _ (List.mem_append_right _ (List.mem_append_right _ (List.mem_append_right _ (List.mem_append_right _ (List.mem_append_left _ (show _ ∈ my_202_7 from List.mem_of_getElem? (i := 22) rfl)))))))))
theorem cd_202_717 : mt_cd 202 717 = some (.iload 4) := mt_cd_of (q := (717, .iload 4, 2)) mq_202 ci_202 (List.mem_append_right _ (List.mem_append_right _ (List.mem_append_right _ (List.mem_append_right _ (List.mem_append_right _ (List.mem_append_right _ (List.mem_append_right _ (List.mem_append_left _ (show _ ∈ my_202_7 from List.mem_of_getElem? (i := 23) rfl)))))))))
theorem cd_202_719 : mt_cd 202 719 = some (.iconst 1) := mt_cd_of (q := (719, .iconst 1, 1)) mq_202 ci_202 (List.mem_append_right _ (List.mem_append_right _ (List.mem_append_right _ (List.mem_append_right _ (List.mem_append_right _ (List.mem_append_right _ (List.mem_append_right _ (List.mem_append_left _ (show _ ∈ my_202_7 from List.mem_of_getElem? (i := 24) rfl)))))))))
theorem cd_202_720 : mt_cd 202 720 = some (.iadd) := mt_cd_of (q := (720, .iadd, 1)) mq_202 ci_202 (List.mem_append_right _ (List.mem_append_right _ (List.mem_append_right _ (List.mem_append_right _ (List.mem_append_right _ (List.mem_append_right _ (List.mem_append_right _ (List.mem_append_left _ (show _ ∈ my_202_7 from List.mem_of_getElem? (i := 25) rfl)))))))))
theorem cd_202_721 : mt_cd 202 721 = some (.iaload) := mt_cd_of (q := (721, .iaload, 1)) mq_202 ci_202 (List.mem_append_right _ (List.mem_append_right _ (List.mem_append_right _ (List.mem_append_right _ (List.mem_append_right _ (List.mem_append_right _ (List.mem_append_right _ (List.mem_append_left _ (show _ ∈ my_202_7 from List.mem_of_getElem? (i := 26) rfl)))))))))
theorem cd_202_722 : mt_cd 202 722 = some (.i2l) := mt_cd_of (q := (722, .i2l, 1)) mq_202 ci_202 (List.mem_append_right _ (List.mem_append_right _ (List.mem_append_right _ (List.mem_append_right _ (List.mem_append_right _ (List.mem_append_right _ (List.mem_append_right _ (List.mem_append_left _ (show _ ∈ my_202_7 from List.mem_of_getElem? (i := 27) rfl)))))))))
theorem cd_202_723 : mt_cd 202 723 = some (.bipush 32) := mt_cd_of (q := (723, .bipush 32, 2)) mq_202 ci_202 (List.mem_append_right _ (List.mem_append_right _ (List.mem_append_right _ (List.mem_append_right _ (List.mem_append_right _ (List.mem_append_right _ (List.mem_append_right _ (List.mem_append_left _ (show _ ∈ my_202_7 from List.mem_of_getElem? (i := 28) rfl)))))))))
theorem cd_202_725 : mt_cd 202 725 = some (.lshl) := mt_cd_of (q := (725, .lshl, 1)) mq_202 ci_202 (List.mem_append_right _ (List.mem_append_right _ (List.mem_append_right _ (List.mem_append_right _ (List.mem_append_right _ (List.mem_append_right _ (List.mem_append_right _ (List.mem_append_left _ (show _ ∈ my_202_7 from List.mem_of_getElem? (i := 29) rfl)))))))))
theorem cd_202_726 : mt_cd 202 726 = some (.aload_n 0) := mt_cd_of (q := (726, .aload_n 0, 1)) mq_202 ci_202 (List.mem_append_right _ (List.mem_append_right _ (List.mem_append_right _ (List.mem_append_right _ (List.mem_append_right _ (List.mem_append_right _ (List.mem_append_right _ (List.mem_append_left _ (show _ ∈ my_202_7 from List.mem_of_getElem? (i := 30) rfl)))))))))
theorem cd_202_727 : mt_cd 202 727 = some (.iload 4) := mt_cd_of (q := (727, .iload 4, 2)) mq_202 ci_202 (List.mem_append_right _ (List.mem_append_right _ (List.mem_append_right _ (List.mem_append_right _ (List.mem_append_right _ (List.mem_append_right _ (List.mem_append_right _ (List.mem_append_left _ (show _ ∈ my_202_7 from List.mem_of_getElem? (i := 31) rfl)))))))))
theorem cd_202_729 : mt_cd 202 729 = some (.iconst 2) := mt_cd_of (q := (729, .iconst 2, 1)) mq_202 ci_202 (List.mem_append_right _ (List.mem_append_right _ (List.mem_append_right _ (List.mem_append_right _ (List.mem_append_right _ (List.mem_append_right _ (List.mem_append_right _ (List.mem_append_left _ (show _ ∈ my_202_7 from List.mem_of_getElem? (i := 32) rfl)))))))))
theorem cd_202_730 : mt_cd 202 730 = some (.iadd) := mt_cd_of (q := (730, .iadd, 1)) mq_202 ci_202 (List.mem_append_right _ (List.mem_append_right _ (List.mem_append_right _ (List.mem_append_right _ (List.mem_append_right _ (List.mem_append_right _ (List.mem_append_right _ (List.mem_append_left _ (show _ ∈ my_202_7 from List.mem_of_getElem? (i := 33) rfl)))))))))
theorem cd_202_731 : mt_cd 202 731 = some (.iaload) := mt_cd_of (q := (731, .iaload, 1)) mq_202 ci_202 (List.mem_append_right _ (List.mem_append_right _ (List.mem_append_right _ (List.mem_append_right _ (List.mem_append_right _ (List.mem_append_right _ (List.mem_append_right _ (List.mem_append_left _ (show _ ∈ my_202_7 from List.mem_of_getElem? (i := 34) rfl)))))))))
theorem cd_202_732 : mt_cd 202 732 = some (.i2l) := mt_cd_of (q := (732, .i2l, 1)) mq_202 ci_202 (List.mem_append_right _ (List.mem_append_right _ (List.mem_append_right _ (List.mem_append_right _ (List.mem_append_right _ (List.mem_append_right _ (List.mem_append_right _ (List.mem_append_left _ (show _ ∈ my_202_7 from List.mem_of_getElem? (i := 35) rfl)))))))))
theorem cd_202_733 : mt_cd 202 733 = some (.ldc2_w 86) := mt_cd_of (q := (733, .ldc2_w 86, 3)) mq_202 ci_202 (List.mem_append_right _ (List.mem_append_right _ (List.mem_append_right _ (List.mem_append_right _ (List.mem_append_right _ (List.mem_append_right _ (List.mem_append_right _ (List.mem_append_left _ (show _ ∈ my_202_7 from List.mem_of_getElem? (i := 36) rfl)))))))))
theorem cd_202_736 : mt_cd 202 736 = some (.land) := mt_cd_of (q := (736, .land, 1)) mq_202 ci_202 (List.mem_append_right _ (List.mem_append_right _ (List.mem_append_right _ (List.mem_append_right _ (List.mem_append_right _ (List.mem_append_right _ (List.mem_append_right _ (List.mem_append_left _ (show _ ∈ my_202_7 from List.mem_of_getElem? (i := 37) rfl)))))))))
theorem cd_202_737 : mt_cd 202 737 = some (.lor) := mt_cd_of (q := (737, .lor, 1)) mq_202 ci_202 (List.mem_append_right _ (List.mem_append_right _ (List.mem_append_right _ (List.mem_append_right _ (List.mem_append_right _ (List.mem_append_right _ (List.mem_append_right _ (List.mem_append_left _ (show _ ∈ my_202_7 from List.mem_of_getElem? (i := 38) rfl)))))))))
theorem cd_202_738 : mt_cd 202 738 = some (.aload_n 0) := mt_cd_of (q := (738, .aload_n 0, 1)) mq_202 ci_202 (List.mem_append_right _ (List.mem_append_right _ (List.mem_append_right _ (List.mem_append_right _ (List.mem_append_right _ (List.mem_append_right _ (List.mem_append_right _ (List.mem_append_left _ (show _ ∈ my_202_7 from List.mem_of_getElem? (i := 39) rfl)))))))))
theorem cd_202_739 : mt_cd 202 739 = some (.iload 4) := mt_cd_of (q := (739, .iload 4, 2)) mq_202 ci_202 (List.mem_append_right _ (List.mem_append_right _ (List.mem_append_right _ (List.mem_append_right _ (List.mem_append_right _ (List.mem_append_right _ (List.mem_append_right _ (List.mem_append_left _ (show _ ∈ my_202_7 from List.mem_of_getElem? (i := 40) rfl)))))))))
theorem cd_202_741 : mt_cd 202 741 = some (.iconst 3) := mt_cd_of (q := (741, .iconst 3, 1)) mq_202 ci_202 (List.mem_append_right _ (List.mem_append_right _ (List.mem_append_right _ (List.mem_append_right _ (List.mem_append_right _ (List.mem_append_right _ (List.mem_append_right _ (List.mem_append_left _ (show _ ∈ my_202_7 from List.mem_of_getElem? (i := 41) rfl)))))))))
theorem cd_202_742 : mt_cd 202 742 = some (.iadd) := mt_cd_of (q := (742, .iadd, 1)) mq_202 ci_202 (List.mem_append_right _ (List.mem_append_right _ (List.mem_append_right _ (List.mem_append_right _ (List.mem_append_right _ (List.mem_append_right _ (List.mem_append_right _ (List.mem_append_left _ (show _ ∈ my_202_7 from List.mem_of_getElem? (i := 42) rfl)))))))))
theorem cd_202_743 : mt_cd 202 743 = some (.iaload) := mt_cd_of (q := (743, .iaload, 1)) mq_202 ci_202 (List.mem_append_right _ (List.mem_append_right _ (List.mem_append_right _ (List.mem_append_right _ (List.mem_append_right _ (List.mem_append_right _ (List.mem_append_right _ (List.mem_append_left _ (show _ ∈ my_202_7 from List.mem_of_getElem? (i := 43) rfl)))))))))
theorem cd_202_744 : mt_cd 202 744 = some (.i2l) := mt_cd_of (q := (744, .i2l, 1)) mq_202 ci_202 (List.mem_append_right _ (List.mem_append_right _ (List.mem_append_right _ (List.mem_append_right _ (List.mem_append_right _ (List.mem_append_right _ (List.mem_append_right _ (List.mem_append_left _ (show _ ∈ my_202_7 from List.mem_of_getElem? (i := 44) rfl)))))))))
theorem cd_202_745 : mt_cd 202 745 = some (.bipush 32) := mt_cd_of (q := (745, .bipush 32, 2)) mq_202 ci_202 (List.mem_append_right _ (List.mem_append_right _ (List.mem_append_right _ (List.mem_append_right _ (List.mem_append_right _ (List.mem_append_right _ (List.mem_append_right _ (List.mem_append_left _ (show _ ∈ my_202_7 from List.mem_of_getElem? (i := 45) rfl)))))))))
theorem cd_202_747 : mt_cd 202 747 = some (.lshl) := mt_cd_of (q := (747, .lshl, 1)) mq_202 ci_202 (List.mem_append_right _ (List.mem_append_right _ (List.mem_append_right _ (List.mem_append_right _ (List.mem_append_right _ (List.mem_append_right _ (List.mem_append_right _ (List.mem_append_left _ (show _ ∈ my_202_7 from List.mem_of_getElem? (i := 46) rfl)))))))))
theorem cd_202_748 : mt_cd 202 748 = some (.aload_n 0) := mt_cd_of (q := (748, .aload_n 0, 1)) mq_202 ci_202 (List.mem_append_right _ (List.mem_append_right _ (List.mem_append_right _ (List.mem_append_right _ (List.mem_append_right _ (List.mem_append_right _ (List.mem_append_right _ (List.mem_append_left _ (show _ ∈ my_202_7 from List.mem_of_getElem? (i := 47) rfl)))))))))
theorem cd_202_749 : mt_cd 202 749 = some (.iload 4) := mt_cd_of (q := (749, .iload 4, 2)) mq_202 ci_202 (List.mem_append_right _ (List.mem_append_right _ (List.mem_append_right _ (List.mem_append_right _ (List.mem_append_right _ (List.mem_append_right _ (List.mem_append_right _ (List.mem_append_left _ (show _ ∈ my_202_7 from List.mem_of_getElem? (i := 48) rfl)))))))))
theorem cd_202_751 : mt_cd 202 751 = some (.iconst 4) := mt_cd_of (q := (751, .iconst 4, 1)) mq_202 ci_202 (List.mem_append_right _ (List.mem_append_right _ (List.mem_append_right _ (List.mem_append_right _ (List.mem_append_right _ (List.mem_append_right _ (List.mem_append_right _ (List.mem_append_left _ (show _ ∈ my_202_7 from List.mem_of_getElem? (i := 49) rfl)))))))))
theorem cd_202_752 : mt_cd 202 752 = some (.iadd) := mt_cd_of (q := (752, .iadd, 1)) mq_202 ci_202 (List.mem_append_right _ (List.mem_append_right _ (List.mem_append_right _ (List.mem_append_right _ (List.mem_append_right _ (List.mem_append_right _ (List.mem_append_right _ (List.mem_append_left _ (show _ ∈ my_202_7 from List.mem_of_getElem? (i := 50) rfl)))))))))
theorem cd_202_753 : mt_cd 202 753 = some (.iaload) := mt_cd_of (q := (753, .iaload, 1)) mq_202 ci_202 (List.mem_append_right _ (List.mem_append_right _ (List.mem_append_right _ (List.mem_append_right _ (List.mem_append_right _ (List.mem_append_right _ (List.mem_append_right _ (List.mem_append_left _ (show _ ∈ my_202_7 from List.mem_of_getElem? (i := 51) rfl)))))))))
theorem cd_202_754 : mt_cd 202 754 = some (.i2l) := mt_cd_of (q := (754, .i2l, 1)) mq_202 ci_202 (List.mem_append_right _ (List.mem_append_right _ (List.mem_append_right _ (List.mem_append_right _ (List.mem_append_right _ (List.mem_append_right _ (List.mem_append_right _ (List.mem_append_left _ (show _ ∈ my_202_7 from List.mem_of_getElem? (i := 52) rfl)))))))))
theorem cd_202_755 : mt_cd 202 755 = some (.ldc2_w 86) := mt_cd_of (q := (755, .ldc2_w 86, 3)) mq_202 ci_202 (List.mem_append_right _ (List.mem_append_right _ (List.mem_append_right _ (List.mem_append_right _ (List.mem_append_right _ (List.mem_append_right _ (List.mem_append_right _ (List.mem_append_left _ (show _ ∈ my_202_7 from List.mem_of_getElem? (i := 53) rfl)))))))))
theorem cd_202_758 : mt_cd 202 758 = some (.land) := mt_cd_of (q := (758, .land, 1)) mq_202 ci_202 (List.mem_append_right _ (List.mem_append_right _ (List.mem_append_right _ (List.mem_append_right _ (List.mem_append_right _ (List.mem_append_right _ (List.mem_append_right _ (List.mem_append_left _ (show _ ∈ my_202_7 from List.mem_of_getElem? (i := 54) rfl)))))))))
theorem cd_202_759 : mt_cd 202 759 = some (.lor) := mt_cd_of (q := (759, .lor, 1)) mq_202 ci_202 (List.mem_append_right _ (List.mem_append_right _ (List.mem_append_right _ (List.mem_append_right _ (List.mem_append_right _ (List.mem_append_right _ (List.mem_append_right _ (List.mem_append_left _ (show _ ∈ my_202_7 from List.mem_of_getElem? (i := 55) rfl)))))))))
theorem cd_202_760 : mt_cd 202 760 = some (.invokevirtual 107) := mt_cd_of (q := (760, .invokevirtual 107, 3)) mq_202 ci_202 (List.mem_append_right _ (List.mem_append_right _ (List.mem_append_right _ (List.mem_append_right _ (List.mem_append_right _ (List.mem_append_right _ (List.mem_append_right _ (List.mem_append_left _ (show _ ∈ my_202_7 from List.mem_of_getElem? (i := 56) rfl)))))))))
theorem cd_202_763 : mt_cd 202 763 = some (.istore 6) := mt_cd_of (q := (763, .istore 6, 2)) mq_202 ci_202 (List.mem_append_right _ (List.mem_append_right _ (List.mem_append_right _ (List.mem_append_right _ (List.mem_append_right _ (List.mem_append_right _ (List.mem_append_right _ (List.mem_append_left _ (show _ ∈ my_202_7 from List.mem_of_getElem? (i := 57) rfl)))))))))
theorem cd_202_765 : mt_cd 202 765 = some (.aload_n 2) := mt_cd_of (q := (765, .aload_n 2, 1)) mq_202 ci_202 (List.mem_append_right _ (List.mem_append_right _ (List.mem_append_right _ (List.mem_append_right _ (List.mem_append_right _ (List.mem_append_right _ (List.mem_append_right _ (List.mem_append_left _ (show _ ∈ my_202_7 from List.mem_of_getElem? (i := 58) rfl)))))))))
theorem cd_202_766 : mt_cd 202 766 = some (.invokevirtual 75) := mt_cd_of (q := (766, .invokevirtual 75, 3)) mq_202 ci_202 (List.mem_append_right _ (List.mem_append_right _ (List.mem_append_right _ (List.mem_append_right _ (List.mem_append_right _ (List.mem_append_right _ (List.mem_append_right _ (List.mem_append_left _ (show _ ∈ my_202_7 from List.mem_of_getElem? (i := 59) rfl)))))))))
theorem cd_202_769 : mt_cd 202 769 = some (.iload 5) := mt_cd_of (q := (769, .iload 5, 2)) mq_202 ci_202 (List.mem_append_right _ (List.mem_append_right _ (List.mem_append_right _ (List.mem_append_right _ (List.mem_append_right _ (List.mem_append_right _ (List.mem_append_right _ (List.mem_append_right _ (List.mem_append_left _ (show _ ∈ my_202_8 from List.mem_of_getElem? (i := 0) rfl))))))))))
theorem cd_202_771 : mt_cd 202 771 = some (.if_icmp .eq 5) := mt_cd_of (q := (771, .if_icmp .eq 5, 3)) mq_202 ci_202 (List.mem_append_right _ (List.mem_append_right _ (List.mem_append_right _ (List.mem_append_right _ (List.mem_append_right _ (List.mem_append_right _ (List.mem_append_right _ (List.mem_append_right _ (List.mem_append_left _ (show _ ∈ my_202_8 from List.mem_of_getElem? (i := 1) rfl))))))))))
theorem cd_202_774 : mt_cd 202 774 = some (.iconst 0) := mt_cd_of (q := (774, .iconst 0, 1)) mq_202 ci_202 (List.mem_append_right _ (List.mem_append_right _ (List.mem_append_right _ (List.mem_append_right _ (List.mem_append_right _ (List.mem_append_right _ (List.mem_append_right _ (List.mem_append_right _ (List.mem_append_left _ (show _ ∈ my_202_8 from List.mem_of_getElem? (i := 2) rfl))))))))))
theorem cd_202_775 : mt_cd 202 775 = some (.ireturn) := mt_cd_of (q := (775, .ireturn, 1)) mq_202 ci_202 (List.mem_append_right _ (List.mem_append_right _ (List.mem_append_right _ (List.mem_append_right _ (List.mem_append_right _ (List.mem_append_right _ (List.mem_append_right _ (List.mem_append_right _ (List.mem_append_left _ (show _ ∈ my_202_8 from List.mem_of_getElem? (i := 3) rfl))))))))))
theorem cd_202_776 : mt_cd 202 776 = some (.iload 5) := mt_cd_of (q := (776, .iload 5, 2)) mq_202 ci_202 (List.mem_append_right _ (List.mem_append_right _ (List.mem_append_right _ (List.mem_append_right _ (List.mem_append_right _ (List.mem_append_right _ (List.mem_append_right _ (List.mem_append_right _ (List.mem_append_left _ (show _ ∈ my_202_8 from List.mem_of_getElem? (i := 4) rfl))))))))))
theorem cd_202_778 : mt_cd 202 778 = some (.ifCond .ne 15) := mt_cd_of (q := (778, .ifCond .ne 15, 3)) mq_202 ci_202 (List.mem_append_right _ (List.mem_append_right _ (List.mem_append_right _ (List.mem_append_right _ (List.mem_append_right _ (List.mem_append_right _ (List.mem_append_right _ (List.mem_append_right _ (List.mem_append_left _ (show _ ∈ my_202_8 from List.mem_of_getElem? (i := 5) rfl))))))))))
theorem cd_202_781 : mt_cd 202 781 = some (.aload_n 3) := mt_cd_of (q := (781, .aload_n 3, 1)) mq_202 ci_202 (List.mem_append_right _ (List.mem_append_right _ (List.mem_append_right _ (List.mem_append_right _ (List.mem_append_right _ (List.mem_append_right _ (List.mem_append_right _ (List.mem_append_right _ (List.mem_append_left _ (show _ ∈ my_202_8 from List.mem_of_getElem? (i := 6) rfl))))))))))
theorem cd_202_782 : mt_cd 202 782 = some (.iconst 0) := mt_cd_of (q := (782, .iconst 0, 1)) mq_202 ci_202 (List.mem_append_right _ (List.mem_append_right _ (List.mem_append_right _ (List.mem_append_right _ (List.mem_append_right _ (List.mem_append_right _ (List.mem_append_right _ (List.mem_append_right _ (List.mem_append_left _ (show _ ∈ my_202_8 from List.mem_of_getElem? (i := 7) rfl))))))))))
theorem cd_202_783 : mt_cd 202 783 = some (.laload) := mt_cd_of (q := (783, .laload, 1)) mq_202 ci_202 (List.mem_append_right _ (List.mem_append_right _ (List.mem_append_right _ (List.mem_append_right _ (List.mem_append_right _ (List.mem_append_right _ (List.mem_append_right _ (List.mem_append_right _ (List.mem_append_left _ (show _ ∈ my_202_8 from List.mem_of_getElem? (i := 8) rfl))))))))))
theorem cd_202_784 : mt_cd 202 784 = some (.iload 6) := mt_cd_of (q := (784, .iload 6, 2)) mq_202 ci_202 (List.mem_append_right _ (List.mem_append_right _ (List.mem_append_right _ (List.mem_append_right _ (List.mem_append_right _ (List.mem_append_right _ (List.mem_append_right _ (List.mem_append_right _ (List.mem_append_left _ (show _ ∈ my_202_8 from List.mem_of_getElem? (i := 9) rfl))))))))))
theorem cd_202_786 : mt_cd 202 786 = some (.i2l) := mt_cd_of (q := (786, .i2l, 1)) mq_202 ci_202 (List.mem_append_right _ (List.mem_append_right _ (List.mem_append_right _ (List.mem_append_right _ (List.mem_append_right _ (List.mem_append_right _ (List.mem_append_right _ (List.mem_append_right _ (List.mem_append_left _ (show _ ∈ my_202_8 from List.mem_of_getElem? (i := 10) rfl))))))))))
theorem cd_202_787 : mt_cd 202 787 = some (.lcmp) := mt_cd_of (q := (787, .lcmp, 1)) mq_202 ci_202 (List.mem_append_right _ (List.mem_append_right _ (List.mem_append_right _ (List.mem_append_right _ (List.mem_append_right _ (List.mem_append_right _ (List.mem_append_right _ (List.mem_append_right _ (List.mem_append_left _ (show _ ∈ my_202_8 from List.mem_of_getElem? (i := 11) rfl))))))))))
theorem cd_202_788 : mt_cd 202 788 = some (.ifCond .eq 5) := mt_cd_of (q := (788, .ifCond .eq 5, 3)) mq_202 ci_202 (List.mem_append_right _ (List.mem_append_right _ (List.mem_append_right _ (List.mem_append_right _ (List.mem_append_right _ (List.mem_append_right _ (List.mem_append_right _ (List.mem_append_right _ (List.mem_append_left _ (show _ ∈ my_202_8 from List.mem_of_getElem? (i := 12) rfl))))))))))
theorem cd_202_791 : mt_cd 202 791 = some (.iconst 0) := mt_cd_of (q := (791, .iconst 0, 1)) mq_202 ci_202 (List.mem_append_right _ (List.mem_append_right _ (List.mem_append_right _ (List.mem_append_right _ (List.mem_append_right _ (List.mem_append_right _ (List.mem_append_right _ (List.mem_append_right _ (List.mem_append_left _ (show _ ∈ my_202_8 from List.mem_of_getElem? (i := 13) rfl))))))))))
theorem cd_202_792 : mt_cd 202 792 = some (.ireturn) := mt_cd_of (q := (792, .ireturn, 1)) mq_202 ci_202 (List.mem_append_right _ (List.mem_append_right _ (List.mem_append_right _ (List.mem_append_right _ (List.mem_append_right _ (List.mem_append_right _ (List.mem_append_right _ (List.mem_append_right _ (List.mem_append_left _ (show _ ∈ my_202_8 from List.mem_of_getElem? (i := 14) rfl))))))))))
theorem cd_202_793 : mt_cd 202 793 = some (.goto 372) := mt_cd_of (q := (793, .goto 372, 3)) mq_202 ci_202 (List.mem_append_right _ (List.mem_append_right _ (List.mem_append_right _ (List.mem_append_right _ (List.mem_append_right _ (List.mem_append_right _ (List.mem_append_right _ (List.mem_append_right _ (List.mem_append_left _ (show _ ∈ my_202_8 from List.mem_of_getElem? (i := 15) rfl))))))))))
theorem cd_202_796 : mt_cd 202 796 = some (.aload_n 1) := mt_cd_of (q := (796, .aload_n 1, 1)) mq_202 ci_202 (List.mem_append_right _ (List.mem_append_right _ (List.mem_append_right _ (List.mem_append_right _ (List.mem_append_right _ (List.mem_append_right _ (List.mem_append_right _ (List.mem_append_right _ (List.mem_append_left _ (show _ ∈ my_202_8 from List.mem_of_getElem? (i := 16) rfl))))))))))
theorem cd_202_797 : mt_cd 202 797 = some (.aload_n 0) := mt_cd_of (q := (797, .aload_n 0, 1)) mq_202 ci_202 (List.mem_append_right _ (List.mem_append_right _ (List.mem_append_right _ (List.mem_append_right _ (List.mem_append_right _ (List.mem_append_right _ (List.mem_append_right _ (List.mem_append_right _ (List.mem_append_left _ (show _ ∈ my_202_8 from List.mem_of_getElem? (i := 17) rfl))))))))))
theorem cd_202_798 : mt_cd 202 798 = some (.iload 4) := mt_cd_of (q := (798, .iload 4, 2)) mq_202 ci_202 (List.mem_append_right _ (List.mem_append_right _ (List.mem_append_right _ (List.mem_append_right _ (List.mem_append_right _ (List.mem_append_right _ (List.mem_append_right _ (List.mem_append_right _ (List.mem_append_left _ (show _ ∈ my_202_8 from List.mem_of_getElem? (i := 18) rfl))))))))))
theorem cd_202_800 : mt_cd 202 800 = some (.iconst 1) := mt_cd_of (q := (800, .iconst 1, 1)) mq_202 ci_202 (List.mem_append_right _ (List.mem_append_right _ (List.mem_append_right _ (List.mem_append_right _ (List.mem_append_right _ (List.mem_append_right _ (List.mem_append_right _ (List.mem_append_right _ (List.mem_append_left _ (show _ ∈ my_202_8 from List.mem_of_getElem? (i := 19) rfl))))))))))
theorem cd_202_801 : mt_cd 202 801 = some (.iadd) := mt_cd_of (q := (801, .iadd, 1)) mq_202 ci_202 (List.mem_append_right _ (List.mem_append_right _ (List.mem_append_right _ (List.mem_append_right _ (List.mem_append_right _ (List.mem_append_right _ (List.mem_append_right _ (List.mem_append_right _ (List.mem_append_left _ (show _ ∈ my_202_8 from List.mem_of_getElem? (i := 20) rfl))))))))))
theorem cd_202_802 : mt_cd 202 802 = some (.iaload) := mt_cd_of (q := (802, .iaload, 1)) mq_202 ci_202 (List.mem_append_right _ (List.mem_append_right _ (List.mem_append_right _ (List.mem_append_right _ (List.mem_append_right _ (List.mem_append_right _ (List.mem_append_right _ (List.mem_append_right _ (List.mem_append_left _ (show _ ∈ my_202_8 from List.mem_of_getElem? (i := 21) rfl))))))))))
theorem cd_202_803 : mt_cd 202 803 = some (.aload_n 0) := mt_cd_of (q := (803, .aload_n 0, 1)) mq_202 ci_202 (List.mem_append_right _ (List.mem_append_right _ (List.mem_append_right _ (List.mem_append_right _ (List.mem_append_right _ (List.mem_append_right _ (List.mem_append_right _ (List.mem_append_right _ (List.mem_append_left _ (show _ ∈ my_202_8 from List.mem_of_getElem? (i := 22) rfl))))))))))
theorem cd_202_804 : mt_cd 202 804 = some (.iload 4) := mt_cd_of (q := (804, .iload 4, 2)) mq_202 ci_202 (List.mem_append_right _ (List.mem_append_right _ (List.mem_append_right _ (List.mem_append_right _ (List.mem_append_right _ (List.mem_append_right _ (List.mem_append_right _ (List.mem_append_right _ (List.mem_append_left _ (show _ ∈ my_202_8 from List.mem_of_getElem? (i := 23) rfl))))))))))
theorem cd_202_806 : mt_cd 202 806 = some (.iconst 2) := mt_cd_of (q := (806, .iconst 2, 1)) mq_202 ci_202 (List.mem_append_right _ (List.mem_append_right _ (List.mem_append_right _ (List.mem_append_right _ (List.mem_append_right _ (List.mem_append_right _ (List.mem_append_right _ (List.mem_append_right _ (List.mem_append_left _ (show _ ∈ my_202_8 from List.mem_of_getElem? (i := 24) rfl))))))))))
theorem cd_202_807 : mt_cd 202 807 = some (.iadd) := mt_cd_of (q := (807, .iadd, 1)) mq_202 ci_202 (List.mem_append_right _ (List.mem_append_right _ (List.mem_append_right _ (List.mem_append_right _ (List.mem_append_right _ (List.mem_append_right _ (List.mem_append_right _ (List.mem_append_right _ (List.mem_append_left _ (show _ ∈ my_202_8 from List.mem_of_getElem? (i := 25) rfl))))))))))
theorem cd_202_808 : mt_cd 202 808 = some (.iaload) := mt_cd_of (q := (808, .iaload, 1)) mq_202 ci_202 (List.mem_append_right _ (List.mem_append_right _ (List.mem_append_right _ (List.mem_append_right _ (List.mem_append_right _ (List.mem_append_right _ (List.mem_append_right _ (List.mem_append_right _ (List.mem_append_left _ (show _ ∈ my_202_8 from List.mem_of_getElem? (i := 26) rfl))))))))))
theorem cd_202_809 : mt_cd 202 809 = some (.aload_n 3) := mt_cd_of (q := (809, .aload_n 3, 1)) mq_202 ci_202 (List.mem_append_right _ (List.mem_append_right _ (List.mem_append_right _ (List.mem_append_right _ (List.mem_append_right _ (List.mem_append_right _ (List.mem_append_right _ (List.mem_append_right _ (List.mem_append_left _ (show _ ∈ my_202_8 from List.mem_of_getElem? (i := 27) rfl))))))))))
theorem cd_202_810 : mt_cd 202 810 = some (.invokestatic 108) := mt_cd_of (q := (810, .invokestatic 108, 3)) mq_202 ci_202 (List.mem_append_right _ (List.mem_append_right _ (List.mem_append_right _ (List.mem_append_right _ (List.mem_append_right _ (List.mem_append_right _ (List.mem_append_right _ (List.mem_append_right _ (List.mem_append_left _ (show _ ∈ my_202_8 from List.mem_of_getElem? (i := 28) rfl))))))))))
theorem cd_202_813 : mt_cd 202 813 = some (.istore 5) := mt_cd_of (q := (813, .istore 5, 2)) mq_202 ci_202 (List.mem_append_right _ (List.mem_append_right _ (List.mem_append_right _ (List.mem_append_right _ (List.mem_append_right _ (List.mem_append_right _ (List.mem_append_right _ (List.mem_append_right _ (List.mem_append_left _ (show _ ∈ my_202_8 from List.mem_of_getElem? (i := 29) rfl))))))))))
theorem cd_202_815 : mt_cd 202 815 = some (.aload_n 2) := mt_cd_of (q := (815, .aload_n 2, 1)) mq_202 ci_202 (List.mem_append_right _ (List.mem_append_right _ (List.mem_append_right _ (List.mem_append_right _ (List.mem_append_right _ (List.mem_append_right _ (List.mem_append_right _ (List.mem_append_right _ (List.mem_append_left _ (show _ ∈ my_202_8 from List.mem_of_getElem? (i := 30) rfl))))))))))
theorem cd_202_816 : mt_cd 202 816 = some (.aload_n 0) := mt_cd_of (q := (816, .aload_n 0, 1)) mq_202 ci_202 (List.mem_append_right _ (List.mem_append_right _ (List.mem_append_right _ (List.mem_append_right _ (List.mem_append_right _ (List.mem_append_right _ (List.mem_append_right _ (List.mem_append_right _ (List.mem_append_left _ (show _ ∈ my_202_8 from List.mem_of_getElem? (i := 31) rfl))))))))))
theorem cd_202_817 : mt_cd 202 817 = some (.iload 4) := mt_cd_of (q := (817, .iload 4, 2)) mq_202 ci_202 (List.mem_append_right _ (List.mem_append_right _ (List.mem_append_right _ (List.mem_append_right _ (List.mem_append_right _ (List.mem_append_right _ (List.mem_append_right _ (List.mem_append_right _ (List.mem_append_left _ (show _ ∈ my_202_8 from List.mem_of_getElem? (i := 32) rfl))))))))))
theorem cd_202_819 : mt_cd 202 819 = some (.iconst 1) := mt_cd_of (q := (819, .iconst 1, 1)) mq_202 ci_202 (List.mem_append_right _ (List.mem_append_right _ (List.mem_append_right _ (List.mem_append_right _ (List.mem_append_right _ (List.mem_append_right _ (List.mem_append_right _ (List.mem_append_right _ (List.mem_append_left _ (show _ ∈ my_202_8 from List.mem_of_getElem? (i := 33) rfl))))))))))
theorem cd_202_820 : mt_cd 202 820 = some (.iadd) := mt_cd_of (q := (820, .iadd, 1)) mq_202 ci_202 (List.mem_append_right _ (List.mem_append_right _ (List.mem_append_right _ (List.mem_append_right _ (List.mem_append_right _ (List.mem_append_right _ (List.mem_append_right _ (List.mem_append_right _ (List.mem_append_left _ (show _ ∈ my_202_8 from List.mem_of_getElem? (i := 34) rfl))))))))))
theorem cd_202_821 : mt_cd 202 821 = some (.iaload) := mt_cd_of (q := (821, .iaload, 1)) mq_202 ci_202 (List.mem_append_right _ (List.mem_append_right _ (List.mem_append_right _ (List.mem_append_right _ (List.mem_append_right _ (List.mem_append_right _ (List.mem_append_right _ (List.mem_append_right _ (List.mem_append_left _ (show _ ∈ my_202_8 from List.mem_of_getElem? (i := 35) rfl))))))))))
theorem cd_202_822 : mt_cd 202 822 = some (.aload_n 0) := mt_cd_of (q := (822, .aload_n 0, 1)) mq_202 ci_202 (List.mem_append_right _ (List.mem_append_right _ (List.mem_append_right _ (List.mem_append_right _ (List.mem_append_right _ (List.mem_append_right _ (List.mem_append_right _ (List.mem_append_right _ (List.mem_append_left _ (show _ ∈ my_202_8 from List.mem_of_getElem? (i := 36) rfl))))))))))
theorem cd_202_823 : mt_cd 202 823 = some (.iload 4) := mt_cd_of (q := (823, .iload 4, 2)) mq_202 ci_202 (List.mem_append_right _ (List.mem_append_right _ (List.mem_append_right _ (List.mem_append_right _ (List.mem_append_right _ (List.mem_append_right _ (List.mem_append_right _ (List.mem_append_right _ (List.mem_append_left _ (show _ ∈ my_202_8 from List.mem_of_getElem? (i := 37) rfl))))))))))
theorem cd_202_825 : mt_cd 202 825 = some (.iconst 2) := mt_cd_of (q := (825, .iconst 2, 1)) mq_202 ci_202 (List.mem_append_right _ (List.mem_append_right _ (List.mem_append_right _ (List.mem_append_right _ (List.mem_append_right _ (List.mem_append_right _ (List.mem_append_right _ (List.mem_append_right _ (List.mem_append_left _ (show _ ∈ my_202_8 from List.mem_of_getElem? (i := 38) rfl))))))))))
theorem cd_202_826 : mt_cd 202 826 = some (.iadd) := mt_cd_of (q := (826, .iadd, 1)) mq_202 ci_202 (List.mem_append_right _ (List.mem_append_right _ (List.mem_append_right _ (List.mem_append_right _ (List.mem_append_right _ (List.mem_append_right _ (List.mem_append_right _ (List.mem_append_right _ (List.mem_append_left _ (show _ ∈ my_202_8 from List.mem_of_getElem? (i := 39) rfl))))))))))
theorem cd_202_827 : mt_cd 202 827 = some (.iaload) := mt_cd_of (q := (827, .iaload, 1)) mq_202 ci_202 (List.mem_append_right _ (List.mem_append_right _ (List.mem_append_right _ (List.mem_append_right _ (List.mem_append_right _ (List.mem_append_right _ (List.mem_append_right _ (List.mem_append_right _ (List.mem_append_left _ (show _ ∈ my_202_8 from List.mem_of_getElem? (i := 40) rfl))))))))))
theorem cd_202_828 : mt_cd 202 828 = some (.invokevirtual 111) := mt_cd_of (q := (828, .invokevirtual 111, 3)) mq_202 ci_202 (List.mem_append_right _ (List.mem_append_right _ (List.mem_append_right _ (List.mem_append_right _ (List.mem_append_right _ (List.mem_append_right _ (List.mem_append_right _ (List.mem_append_right _ (List.mem_append_left _ (show _ ∈ my_202_8 from List.mem_of_getElem? (i := 41) rfl))))))))))
theorem cd_202_831 : mt_cd 202 831 = some (.istore 6) := mt_cd_of (q := (831, .istore 6, 2)) mq_202 ci_202 (List.mem_append_right _ (List.mem_append_right _ (List.mem_append_right _ (List.mem_append_right _ (List.mem_append_right _ (List.mem_append_right _ (List.mem_append_right _ (List.mem_append_right _ (List.mem_append_left _ (show _ ∈ my_202_8 from List.mem_of_getElem? (i := 42) rfl))))))))))
theorem cd_202_833 : mt_cd 202 833 = some (.aload_n 2) := mt_cd_of (q := (833, .aload_n 2, 1)) mq_202 ci_202 (List.mem_append_right _ (List.mem_append_right _ (List.mem_append_right _ (List.mem_append_right _ (List.mem_append_right _ (List.mem_append_right _ (List.mem_append_right _ (List.mem_append_right _ (List.mem_append_left _ (show _ ∈ my_202_8 from List.mem_of_getElem? (i := 43) rfl))))))))))
theorem cd_202_834 : mt_cd 202 834 = some (.invokevirtual 75) := mt_cd_of (q := (834, .invokevirtual 75, 3)) mq_202 ci_202 (List.mem_append_right _ (List.mem_append_right _ (List.mem_append_right _ (List.mem_append_right _ (List.mem_append_right _ (List.mem_append_right _ (List.mem_append_right _ (List.mem_append_right _ (List.mem_append_left _ (show _ ∈ my_202_8 from List.mem_of_getElem? (i := 44) rfl))))))))))
theorem cd_202_837 : mt_cd 202 837 = some (.iload 5) := mt_cd_of (q := (837, .iload 5, 2)) mq_202 ci_202 (List.mem_append_right _ (List.mem_append_right _ (List.mem_append_right _ (List.mem_append_right _ (List.mem_append_right _ (List.mem_append_right _ (List.mem_append_right _ (List.mem_append_right _ (List.mem_append_left _ (show _ ∈ my_202_8 from List.mem_of_getElem? (i := 45) rfl))))))))))
theorem cd_202_839 : mt_cd 202 839 = some (.if_icmp .eq 5) := mt_cd_of (q := (839, .if_icmp .eq 5, 3)) mq_202 ci_202 (List.mem_append_right _ (List.mem_append_right _ (List.mem_append_right _ (List.mem_append_right _ (List.mem_append_right _ (List.mem_append_right _ (List.mem_append_right _ (List.mem_append_right _ (List.mem_append_left _ (show _ ∈ my_202_8 from List.mem_of_getElem? (i := 46) rfl))))))))))
theorem cd_202_842 : mt_cd 202 842 = some (.iconst 0) := mt_cd_of (q := (842, .iconst 0, 1)) mq_202 ci_202 (List.mem_append_right _ (List.mem_append_right _ (List.mem_append_right _ (List.mem_append_right _ (List.mem_append_right _ (List.mem_append_right _ (List.mem_append_right _ (List.mem_append_right _ (List.mem_append_left _ (show _ ∈ my_202_8 from List.mem_of_getElem? (i := 47) rfl))))))))))
theorem cd_202_843 : mt_cd 202 843 = some (.ireturn) := mt_cd_of (q := (843, .ireturn, 1)) mq_202 ci_202 (List.mem_append_right _ (List.mem_append_right _ (List.mem_append_right _ (List.mem_append_right _ (List.mem_append_right _ (List.mem_append_right _ (List.mem_append_right _ (List.mem_append_right _ (List.mem_append_left _ (show _ ∈ my_202_8 from List.mem_of_getElem? (i := 48) rfl))))))))))
theorem cd_202_844 : mt_cd 202 844 = some (.iload 5) := mt_cd_of (q := (844, .iload 5, 2)) mq_202 ci_202 (List.mem_append_right _ (List.mem_append_right _ (List.mem_append_right _ (List.mem_append_right _ (List.mem_append_right _ (List.mem_append_right _ (List.mem_append_right _ (List.mem_append_right _ (List.mem_append_left _ (show _ ∈ my_202_8 from List.mem_of_getElem? (i := 49) rfl))))))))))
theorem cd_202_846 : mt_cd 202 846 = some (.ifCond .ne 15) := mt_cd_of (q := (846, .ifCond .ne 15, 3)) mq_202 ci_202 (List.mem_append_right _ (List.mem_append_right _ (List.mem_append_right _ (List.mem_append_right _ (List.mem_append_right _ (List.mem_append_right _ (List.mem_append_right _ (List.mem_append_right _ (List.mem_append_left _ (show _ ∈ my_202_8 from List.mem_of_getElem? (i := 50) rfl))))))))))
theorem cd_202_849 : mt_cd 202 849 = some (.aload_n 3) := mt_cd_of (q := (849, .aload_n 3, 1)) mq_202 ci_202 (List.mem_append_right _ (List.mem_append_right _ (List.mem_append_right _ (List.mem_append_right _ (List.mem_append_right _ (List.mem_append_right _ (List.mem_append_right _ (List.mem_append_right _ (List.mem_append_left _ (show _ ∈ my_202_8 from List.mem_of_getElem? (i := 51) rfl))))))))))
theorem cd_202_850 : mt_cd 202 850 = some (.iconst 0) := mt_cd_of (q := (850, .iconst 0, 1)) mq_202 ci_202 (List.mem_append_right _ (List.mem_append_right _ (List.mem_append_right _ (List.mem_append_right _ (List.mem_append_right _ (List.mem_append_right _ (List.mem_append_right _ (List.mem_append_right _ (List.mem_append_left _ (show _ ∈ my_202_8 from List.mem_of_getElem? (i := 52) rfl))))))))))
theorem cd_202_851 : mt_cd 202 851 = some (.laload) := mt_cd_of (q := (851, .laload, 1)) mq_202 ci_202 (List.mem_append_right _ (List.mem_append_right _ (List.mem_append_right _ (List.mem_append_right _ (List.mem_append_right _ (List.mem_append_right _ (List.mem_append_right _ (List.mem_append_right _ (List.mem_append_left _ (show _ ∈ my_202_8 from List.mem_of_getElem? (i := 53) rfl))))))))))
theorem cd_202_852 : mt_cd 202 852 = some (.iload 6) := mt_cd_of (q := (852, .iload 6, 2)) mq_202 ci_202 (List.mem_append_right _ (List.mem_append_right _ (List.mem_append_right _ (List.mem_append_right _ (List.mem_append_right _ (List.mem_append_right _ (List.mem_append_right _ (List.mem_append_right _ (List.mem_append_left _ (show _ ∈ my_202_8 from List.mem_of_getElem? (i := 54) rfl))))))))))
theorem cd_202_854 : mt_cd 202 854 = some (.i2l) := mt_cd_of (q := (854, .i2l, 1)) mq_202 ci_202 (List.mem_append_right _ (List.mem_append_right _ (List.mem_append_right _ (List.mem_append_right _ (List.mem_append_right _ (List.mem_append_right _ (List.mem_append_right _ (List.mem_append_right _ (List.mem_append_left _ (show _ ∈ my_202_8 from List.mem_of_getElem? (i := 55) rfl))))))))))
theorem cd_202_855 : mt_cd 202 855 = some (.lcmp) := mt_cd_of (q := (855, .lcmp, 1)) mq_202 ci_202 (List.mem_append_right _ (List.mem_append_right _ (List.mem_append_right _ (List.mem_append_right _ (List.mem_append_right _ (List.mem_append_right _ (List.mem_append_right _ (List.mem_append_right _ (List.mem_append_left _ (show _ ∈ my_202_8 from List.mem_of_getElem? (i := 56) rfl))))))))))
theorem cd_202_856 : mt_cd 202 856 = some (.ifCond .eq 5) := mt_cd_of (q := (856, .ifCond .eq 5, 3)) mq_202 ci_202 (List.mem_append_right _ (List.mem_append_right _ (List.mem_append_right _ (List.mem_append_right _ (List.mem_append_right _ (List.mem_append_right _ (List.mem_append_right _ (List.mem_append_right _ (List.mem_append_left _ (show _ ∈ my_202_8 from List.mem_of_getElem? (i := 57) rfl))))))))))
theorem cd_202_859 : mt_cd 202 859 = some (.iconst 0) := mt_cd_of (q := (859, .iconst 0, 1)) mq_202 ci_202 (List.mem_append_right _ (List.mem_append_right _ (List.mem_append_right _ (List.mem_append_right _ (List.mem_append_right _ (List.mem_append_right _ (List.mem_append_right _ (List.mem_append_right _ (List.mem_append_left _ (show _ ∈ my_202_8 from List.mem_of_getElem? (i := 58) rfl))))))))))
theorem cd_202_860 : mt_cd 202 860 = some (.ireturn) := mt_cd_of (q := (860, .ireturn, 1)) mq_202 ci_202 (List.mem_append_right _ (List.mem_append_right _ (List.mem_append_right _ (List.mem_append_right _ (List.mem_append_right _ (List.mem_append_right _ (List.mem_append_right _ (List.mem_append_right _ (List.mem_append_left _ (show _ ∈ my_202_8 from List.mem_of_getElem? (i := 59) rfl))))))))))
theorem cd_202_861 : mt_cd 202 861 = some (.goto 304) := mt_cd_of (q := (861, .goto 304, 3)) mq_202 ci_202 (List.mem_append_right _ (List.mem_append_right _ (List.mem_append_right _ (List.mem_append_right _ (List.mem_append_right _ (List.mem_append_right _ (List.mem_append_right _ (List.mem_append_right _ (List.mem_append_right _ (List.mem_append_left _ (show _ ∈ my_202_9 from List.mem_of_getElem? (i := 0) rfl)))))))))))
theorem cd_202_864 : mt_cd 202 864 = some (.aload_n 1) := mt_cd_of (q := (864, .aload_n 1, 1)) mq_202 ci_202 (List.mem_append_right _ (List.mem_append_right _ (List.mem_append_right _ (List.mem_append_right _ (List.mem_append_right _ (List.mem_append_right _ (List.mem_append_right _ (List.mem_append_right _ (List.mem_append_right _ (List.mem_append_left _ (show _ ∈ my_202_9 from List.mem_of_getElem? (i := 1) rfl)))))))))))
theorem cd_202_865 : mt_cd 202 865 = some (.aload_n 0) := mt_cd_of (q := (865, .aload_n 0, 1)) mq_202 ci_202 (List.mem_append_right _ (List.mem_append_right _ (List.mem_append_right _ (List.mem_append_right _ (List.mem_append_right _ (List.mem_append_right _ (List.mem_append_right _ (List.mem_append_right _ (List.mem_append_right _ (List.mem_append_left _ (show _ ∈ my_202_9 from List.mem_of_getElem? (i := 2) rfl)))))))))))
theorem cd_202_866 : mt_cd 202 866 = some (.iload 4) := mt_cd_of (q := (866, .iload 4, 2)) mq_202 ci_202 (List.mem_append_right _ (List.mem_append_right _ (List.mem_append_right _ (List.mem_append_right _ (List.mem_append_right _ (List.mem_append_right _ (List.mem_append_right _ (List.mem_append_right _ (List.mem_append_right _ (List.mem_append_left _ (show _ ∈ my_202_9 from List.mem_of_getElem? (i := 3) rfl)))))))))))
theorem cd_202_868 : mt_cd 202 868 = some (.iconst 1) := mt_cd_of (q := (868, .iconst 1, 1)) mq_202 ci_202 (List.mem_append_right _ (List.mem_append_right _ (List.mem_append_right _ (List.mem_append_right _ (List.mem_append_right _ (List.mem_append_right _ (List.mem_append_right _ (List.mem_append_right _ (List.mem_append_right _ (List.mem_append_left _ (show _ ∈ my_202_9 from List.mem_of_getElem? (i := 4) rfl)))))))))))
theorem cd_202_869 : mt_cd 202 869 = some (.iadd) := mt_cd_of (q := (869, .iadd, 1)) mq_202 ci_202 (List.mem_append_right _ (List.mem_append_right _ (List.mem_append_right _ (List.mem_append_right _ (List.mem_append_right _ (List.mem_append_right _ (List.mem_append_right _ (List.mem_append_right _ (List.mem_append_right _ (List.mem_append_left _ (show _ ∈ my_202_9 from List.mem_of_getElem? (i := 5) rfl)))))))))))
theorem cd_202_870 : mt_cd 202 870 = some (.iaload) := mt_cd_of (q := (870, .iaload, 1)) mq_202 ci_202 (List.mem_append_right _ (List.mem_append_right _ (List.mem_append_right _ (List.mem_append_right _ (List.mem_append_right _ (List.mem_append_right _ (List.mem_append_right _ (List.mem_append_right _ (List.mem_append_right _ (List.mem_append_left _ (show _ ∈ my_202_9 from List.mem_of_getElem? (i := 6) rfl)))))))))))
theorem cd_202_871 : mt_cd 202 871 = some (.aload_n 3) := mt_cd_of (q := (871, .aload_n 3, 1)) mq_202 ci_202 (List.mem_append_right _ (List.mem_append_right _ (List.mem_append_right _ (List.mem_append_right _ (List.mem_append_right _ (List.mem_append_right _ (List.mem_append_right _ (List.mem_append_right _ (List.mem_append_right _ (List.mem_append_left _ (show _ ∈ my_202_9 from List.mem_of_getElem? (i := 7) rfl)))))))))))
theorem cd_202_872 : mt_cd 202 872 = some (.invokestatic 112) := mt_cd_of (q := (872, .invokestatic 112, 3)) mq_202 ci_202 (List.mem_append_right _ (List.mem_append_right _ (List.mem_append_right _ (List.mem_append_right _ (List.mem_append_right _ (List.mem_append_right _ (List.mem_append_right _ (List.mem_append_right _ (List.mem_append_right _ (List.mem_append_left _ (show _ ∈ my_202_9 from List.mem_of_getElem? (i := 8) rfl)))))))))))
theorem cd_202_875 : mt_cd 202 875 = some (.istore 5) := mt_cd_of (q := (875, .istore 5, 2)) mq_202 ci_202 (List.mem_append_right _ (List.mem_append_right _ (List.mem_append_right _ (List.mem_append_right _ (List.mem_append_right _ (List.mem_append_right _ (List.mem_append_right _ (List.mem_append_right _ (List.mem_append_right _ (List.mem_append_left _ (show _ ∈ my_202_9 from List.mem_of_getElem? (i := 9) rfl)))))))))))
theorem cd_202_877 : mt_cd 202 877 = some (.aload_n 2) := mt_cd_of (q := (877, .aload_n 2, 1)) mq_202 ci_202 (List.mem_append_right _ (List.mem_append_right _ (List.mem_append_right _ (List.mem_append_right _ (List.mem_append_right _ (List.mem_append_right _ (List.mem_append_right _ (List.mem_append_right _ (List.mem_append_right _ (List.mem_append_left _ (show _ ∈ my_202_9 from List.mem_of_getElem? (i := 10) rfl)))))))))))
theorem cd_202_878 : mt_cd 202 878 = some (.aload_n 0) := mt_cd_of (q := (878, .aload_n 0, 1)) mq_202 ci_202 (List.mem_append_right _ (List.mem_append_right _ (List.mem_append_right _ (List.mem_append_right _ (List.mem_append_right _ (List.mem_append_right _ (List.mem_append_right _ (List.mem_append_right _ (List.mem_append_right _ (List.mem_append_left _ (show _ ∈ my_202_9 from List.mem_of_getElem? (i := 11) rfl)))))))))))
theorem cd_202_879 : mt_cd 202 879 = some (.iload 4) := mt_cd_of (q := (879, .iload 4, 2)) mq_202 ci_202 (List.mem_append_right _ (List.mem_append_right _ (List.mem_append_right _ (List.mem_append_right _ (List.mem_append_right _ (List.mem_append_right _ (List.mem_append_right _ (List.mem_append_right _ (List.mem_append_right _ (List.mem_append_left _ (show _ ∈ my_202_9 from List.mem_of_getElem? (i := 12) rfl)))))))))))
theorem cd_202_881 : mt_cd 202 881 = some (.iconst 1) := mt_cd_of (q := (881, .iconst 1, 1)) mq_202 ci_202 (List.mem_append_right _ (List.mem_append_right _ (List.mem_append_right _ (List.mem_append_right _ (List.mem_append_right _ (List.mem_append_right _ (List.mem_append_right _ (List.mem_append_right _ (List.mem_append_right _ (List.mem_append_left _ (show _ ∈ my_202_9 from List.mem_of_getElem? (i := 13) rfl)))))))))))
theorem cd_202_882 : mt_cd 202 882 = some (.iadd) := mt_cd_of (q := (882, .iadd, 1)) mq_202 ci_202 (List.mem_append_right _ (List.mem_append_right _ (List.mem_append_right _ (List.mem_append_right _ (List.mem_append_right _ (List.mem_append_right _ (List.mem_append_right _ (List.mem_append_right _ (List.mem_append_right _ (List.mem_append_left _ (show _ ∈ my_202_9 from List.mem_of_getElem? (i := 14) rfl)))))))))))
theorem cd_202_883 : mt_cd 202 883 = some (.iaload) := mt_cd_of (q := (883, .iaload, 1)) mq_202 ci_202 (List.mem_append_right _ (List.mem_append_right _ (List.mem_append_right _ (List.mem_append_right _ (List.mem_append_right _ (List.mem_append_right _ (List.mem_append_right _ (List.mem_append_right _ (List.mem_append_right _ (List.mem_append_left _ (show _ ∈ my_202_9 from List.mem_of_getElem? (i := 15) rfl)))))))))))
theorem cd_202_884 : mt_cd 202 884 = some (.invokevirtual 114) := mt_cd_of (q := (884, .invokevirtual 114, 3)) mq_202 ci_202 (List.mem_append_right _ (List.mem_append_right _ (List.mem_append_right _ (List.mem_append_right _ (List.mem_append_right _ (List.mem_append_right _ (List.mem_append_right _ (List.mem_append_right _ (List.mem_append_right _ (List.mem_append_left _ (show _ ∈ my_202_9 from List.mem_of_getElem? (i := 16) rfl)))))))))))
theorem cd_202_887 : mt_cd 202 887 = some (.lstore 6) := mt_cd_of (q := (887, .lstore 6, 2)) mq_202 ci_202 (List.mem_append_right _ (List.mem_append_right _ (List.mem_append_right _ (List.mem_append_right _ (List.mem_append_right _ (List.mem_append_right _ (List.mem_append_right _ (List.mem_append_right _ (List.mem_append_right _ (List.mem_append_left _ (show _ ∈ my_202_9 from List.mem_of_getElem? (i := 17) rfl)))))))))))
theorem cd_202_889 : mt_cd 202 889 = some (.aload_n 2) := mt_cd_of (q := (889, .aload_n 2, 1)) mq_202 ci_202 (List.mem_append_right _ (List.mem_append_right _ (List.mem_append_right _ (List.mem_append_right _ (List.mem_append_right _ (List.mem_append_right _ (List.mem_append_right _ (List.mem_append_right _ (List.mem_append_right _ (List.mem_append_left _ (show _ ∈ my_202_9 from List.mem_of_getElem? (i := 18) rfl)))))))))))
theorem cd_202_890 : mt_cd 202 890 = some (.invokevirtual 75) := mt_cd_of (q := (890, .invokevirtual 75, 3)) mq_202 ci_202 (List.mem_append_right _ (List.mem_append_right _ (List.mem_append_right _ (List.mem_append_right _ (List.mem_append_right _ (List.mem_append_right _ (List.mem_append_right _ (List.mem_append_right _ (List.mem_append_right _ (List.mem_append_left _ (show _ ∈ my_202_9 from List.mem_of_getElem? (i := 19) rfl)))))))))))
theorem cd_202_893 : mt_cd 202 893 = some (.iload 5) := mt_cd_of (q := (893, .iload 5, 2)) mq_202 ci_202 (List.mem_append_right _ (List.mem_append_right _ (List.mem_append_right _ (List.mem_append_right _ (List.mem_append_right _ (List.mem_append_right _ (List.mem_append_right _ (List.mem_append_right _ (List.mem_append_right _ (List.mem_append_left _ (show _ ∈ my_202_9 from List.mem_of_getElem? (i := 20) rfl)))))))))))
theorem cd_202_895 : mt_cd 202 895 = some (.if_icmp .eq 5) := mt_cd_of (q := (895, .if_icmp .eq 5, 3)) mq_202 ci_202 (List.mem_append_right _ (List.mem_append_right _ (List.mem_append_right _ (List.mem_append_right _ (List.mem_append_right _ (List.mem_append_right _ (List.mem_append_right _ (List.mem_append_right _ (List.mem_append_right _ (List.mem_append_left _ (show _ ∈ my_202_9 from List.mem_of_getElem? (i := 21) rfl)))))))))))
theorem cd_202_898 : mt_cd 202 898 = some (.iconst 0) := mt_cd_of (q := (898, .iconst 0, 1)) mq_202 ci_202 (List.mem_append_right _ (List.mem_append_right _ (List.mem_append_right _ (List.mem_append_right _ (List.mem_append_right _ (List.mem_append_right _ (List.mem_append_right _ (List.mem_append_right _ (List.mem_append_right _ (List.mem_append_left _ (show _ ∈ my_202_9 from List.mem_of_getElem? (i := 22) rfl)))))))))))
theorem cd_202_899 : mt_cd 202 899 = some (.ireturn) := mt_cd_of (q := (899, .ireturn, 1)) mq_202 ci_202 (List.mem_append_right _ (List.mem_append_right _ (List.mem_append_right _ (List.mem_append_right _ (List.mem_append_right _ (List.mem_append_right _ (List.mem_append_right _ (List.mem_append_right _ (List.mem_append_right _ (List.mem_append_left _ (show _ ∈ my_202_9 from List.mem_of_getElem? (i := 23) rfl)))))))))))
theorem cd_202_900 : mt_cd 202 900 = some (.iload 5) := mt_cd_of (q := (900, .iload 5, 2)) mq_202 ci_202 (List.mem_append_right _ (List.mem_append_right _ (List.mem_append_right _ (List.mem_append_right _ (List.mem_append_right _ (List.mem_append_right _ (List.mem_append_right _ (List.mem_append_right _ (List.mem_append_right _ (List.mem_append_left _ (show _ ∈ my_202_9 from List.mem_of_getElem? (i := 24) rfl)))))))))))
theorem cd_202_902 : mt_cd 202 902 = some (.ifCond .ne 14) := mt_cd_of (q := (902, .ifCond .ne 14, 3)) mq_202 ci_202 (List.mem_append_right _ (List.mem_append_right _ (List.mem_append_right _ (List.mem_append_right _ (List.mem_append_right _ (List.mem_append_right _ (List.mem_append_right _ (List.mem_append_right _ (List.mem_append_right _ (List.mem_append_left _ (show _ ∈ my_202_9 from List.mem_of_getElem? (i := 25) rfl)))))))))))
theorem cd_202_905 : mt_cd 202 905 = some (.aload_n 3) := mt_cd_of (q := (905, .aload_n 3, 1)) mq_202 ci_202 (List.mem_append_right _ (List.mem_append_right _ (List.mem_append_right _ (List.mem_append_right _ (List.mem_append_right _ (List.mem_append_right _ (List.mem_append_right _ (List.mem_append_right _ (List.mem_append_right _ (List.mem_append_left _ (show _ ∈ my_202_9 from List.mem_of_getElem? (i := 26) rfl)))))))))))
theorem cd_202_906 : mt_cd 202 906 = some (.iconst 0) := mt_cd_of (q := (906, .iconst 0, 1)) mq_202 ci_202 (List.mem_append_right _ (List.mem_append_right _ (List.mem_append_right _ (List.mem_append_right _ (List.mem_append_right _ (List.mem_append_right _ (List.mem_append_right _ (List.mem_append_right _ (List.mem_append_right _ (List.mem_append_left _ (show _ ∈ my_202_9 from List.mem_of_getElem? (i := 27) rfl)))))))))))
theorem cd_202_907 : mt_cd 202 907 = some (.laload) := mt_cd_of (q := (907, .laload, 1)) mq_202 ci_202 (List.mem_append_right _ (List.mem_append_right _ (List.mem_append_right _ (List.mem_append_right _ (List.mem_append_right _ (List.mem_append_right _ (List.mem_append_right _ (List.mem_append_right _ (List.mem_append_right _ (List.mem_append_left _ (show _ ∈ my_202_9 from List.mem_of_getElem? (i := 28) rfl)))))))))))
theorem cd_202_908 : mt_cd 202 908 = some (.lload 6) := mt_cd_of (q := (908, .lload 6, 2)) mq_202 ci_202 (List.mem_append_right _ (List.mem_append_right _ (List.mem_append_right _ (List.mem_append_right _ (List.mem_append_right _ (List.mem_append_right _ (List.mem_append_right _ (List.mem_append_right _ (List.mem_append_right _ (List.mem_append_left _ (show _ ∈ my_202_9 from List.mem_of_getElem? (i := 29) rfl)))))))))))
theorem cd_202_910 : mt_cd 202 910 = some (.lcmp) := mt_cd_of (q := (910, .lcmp, 1)) mq_202 ci_202 (List.mem_append_right _ (List.mem_append_right _ (List.mem_append_right _ (List.mem_append_right _ (List.mem_append_right _ (List.mem_append_right _ (List.mem_append_right _ (List.mem_append_right _ (List.mem_append_right _ (List.mem_append_left _ (show _ ∈ my_202_9 from List.mem_of_getElem? (i := 30) rfl)))))))))))
theorem cd_202_911 : mt_cd 202 911 = some (.ifCond .eq 5) := mt_cd_of (q := (911, .ifCond .eq 5, 3)) mq_202 ci_202 (List.mem_append_right _ (List.mem_append_right _ (List.mem_append_right _ (List.mem_append_right _ (List.mem_append_right _ (List.mem_append_right _ (List.mem_append_right _ (List.mem_append_right _ (List.mem_append_right _ (List.mem_append_left _ (show _ ∈ my_202_9 from List.mem_of_getElem? (i := 31) rfl)))))))))))
theorem cd_202_914 : mt_cd 202 914 = some (.iconst 0) := mt_cd_of (q := (914, .iconst 0, 1)) mq_202 ci_202 (List.mem_append_right _ (List.mem_append_right _ (List.mem_append_right _ (List.mem_append_right _ (List.mem_append_right _ (List.mem_append_right _ (List.mem_append_right _ (List.mem_append_right _ (List.mem_append_right _ (List.mem_append_left _ (show _ ∈ my_202_9 from List.mem_of_getElem? (i := 32) rfl)))))))))))
theorem cd_202_915 : mt_cd 202 915 = some (.ireturn) := mt_cd_of (q := (915, .ireturn, 1)) mq_202 ci_202 (List.mem_append_right _ (List.mem_append_right _ (List.mem_append_right _ (List.mem_append_right _ (List.mem_append_right _ (List.mem_append_right _ (List.mem_append_right _ (List.mem_append_right _ (List.mem_append_right _ (List.mem_append_left _ (show _ ∈ my_202_9 from List.mem_of_getElem? (i := 33) rfl)))))))))))
theorem cd_202_916 : mt_cd 202 916 = some (.goto 249) := mt_cd_of (q := (916, .goto 249, 3)) mq_202 ci_202 (List.mem_append_right _ (List.mem_append_right _ (List.mem_append_right _ (List.mem_append_right _ (List.mem_append_right _ (List.mem_append_right _ (List.mem_append_right _ (List.mem_append_right _ (List.mem_append_right _ (List.mem_append_left _ (show _ ∈ my_202_9 from List.mem_of_getElem? (i := 34) rfl)))))))))))
theorem cd_202_919 : mt_cd 202 919 = some (.aload_n 1) := mt_cd_of (q := (919, .aload_n 1, 1)) mq_202 ci_202 (List.mem_append_right _ (List.mem_append_right _ (List.mem_append_right _ (List.mem_append_right _ (List.mem_append_right _ (List.mem_append_right _ (List.mem_append_right _ (List.mem_append_right _ (List.mem_append_right _ (List.mem_append_left _ (show _ ∈ my_202_9 from List.mem_of_getElem? (i := 35) rfl)))))))))))
theorem cd_202_920 : mt_cd 202 920 = some (.aload_n 0) := mt_cd_of (q := (920, .aload_n 0, 1)) mq_202 ci_202 (List.mem_append_right _ (List.mem_append_right _ (List.mem_append_right _ (List.mem_append_right _ (List.mem_append_right _ (List.mem_append_right _ (List.mem_append_right _ (List.mem_append_right _ (List.mem_append_right _ (List.mem_append_left _ (show _ ∈ my_202_9 from List.mem_of_getElem? (i := 36) rfl)))))))))))
theorem cd_202_921 : mt_cd 202 921 = some (.iload 4) := mt_cd_of (q := (921, .iload 4, 2)) mq_202 ci_202 (List.mem_append_right _ (List.mem_append_right _ (List.mem_append_right _ (List.mem_append_right _ (List.mem_append_right _ (List.mem_append_right _ (List.mem_append_right _ (List.mem_append_right _ (List.mem_append_right _ (List.mem_append_left _ (show _ ∈ my_202_9 from List.mem_of_getElem? (i := 37) rfl)))))))))))
theorem cd_202_923 : mt_cd 202 923 = some (.iconst 1) := mt_cd_of (q := (923, .iconst 1, 1)) mq_202 ci_202 (List.mem_append_right _ (List.mem_append_right _ (List.mem_append_right _ (List.mem_append_right _ (List.mem_append_right _ (List.mem_append_right _ (List.mem_append_right _ (List.mem_append_right _ (List.mem_append_right _ (List.mem_append_left _ (show _ ∈ my_202_9 from List.mem_of_getElem? (i := 38) rfl)))))))))))
theorem cd_202_924 : mt_cd 202 924 = some (.iadd) := mt_cd_of (q := (924, .iadd, 1)) mq_202 ci_202 (List.mem_append_right _ (List.mem_append_right _ (List.mem_append_right _ (List.mem_append_right _ (List.mem_append_right _ (List.mem_append_right _ (List.mem_append_right _ (List.mem_append_right _ (List.mem_append_right _ (List.mem_append_left _ (show _ ∈ my_202_9 from List.mem_of_getElem? (i := 39) rfl)))))))))))
theorem cd_202_925 : mt_cd 202 925 = some (.iaload) := mt_cd_of (q := (925, .iaload, 1)) mq_202 ci_202 (List.mem_append_right _ (List.mem_append_right _ (List.mem_append_right _ (List.mem_append_right _ (List.mem_append_right _ (List.mem_append_right _ (List.mem_append_right _ (List.mem_append_right _ (List.mem_append_right _ (List.mem_append_left _ (show _ ∈ my_202_9 from List.mem_of_getElem? (i := 40) rfl)))))))))))
theorem cd_202_926 : mt_cd 202 926 = some (.aload_n 0) := mt_cd_of (q := (926, .aload_n 0, 1)) mq_202 ci_202 (List.mem_append_right _ (List.mem_append_right _ (List.mem_append_right _ (List.mem_append_right _ (List.mem_append_right _ (List.mem_append_right _ (List.mem_append_right _ (List.mem_append_right _ (List.mem_append_right _ (List.mem_append_left _ (show _ ∈ my_202_9 from List.mem_of_getElem? (i := 41) rfl)))))))))))
theorem cd_202_927 : mt_cd 202 927 = some (.iload 4) := mt_cd_of (q := (927, .iload 4, 2)) mq_202 ci_202 (List.mem_append_right _ (List.mem_append_right _ (List.mem_append_right _ (List.mem_append_right _ (List.mem_append_right _ (List.mem_append_right _ (List.mem_append_right _ (List.mem_append_right _ (List.mem_append_right _ (List.mem_append_left _ (show _ ∈ my_202_9 from List.mem_of_getElem? (i := 42) rfl)))))))))))
theorem cd_202_929 : mt_cd 202 929 = some (.iconst 2) := mt_cd_of (q := (929, .iconst 2, 1)) mq_202 ci_202 (List.mem_append_right _ (List.mem_append_right _ (List.mem_append_right _ (List.mem_append_right _ (List.mem_append_right _ (List.mem_append_right _ (List.mem_append_right _ (List.mem_append_right _ (List.mem_append_right _ (List.mem_append_left _ (show _ ∈ my_202_9 from List.mem_of_getElem? (i := 43) rfl)))))))))))
theorem cd_202_930 : mt_cd 202 930 = some (.iadd) := mt_cd_of (q := (930, .iadd, 1)) mq_202 ci_202 (List.mem_append_right _ (List.mem_append_right _ (List.mem_append_right _ (List.mem_append_right _ (List.mem_append_right _ (List.mem_append_right _ (List.mem_append_right _ (List.mem_append_right _ (List.mem_append_right _ (List.mem_append_left _ (show _ ∈ my_202_9 from List.mem_of_getElem? (i := 44) rfl)))))))))))
theorem cd_202_931 : mt_cd 202 931 = some (.iaload) := mt_cd_of (q := (931, .iaload, 1)) mq_202 ci_202 (List.mem_append_right _ (List.mem_append_right _ (List.mem_append_right _ (List.mem_append_right _ (List.mem_append_right _ (List.mem_append_right _ (List.mem_append_right _ (List.mem_append_right _ (List.mem_append_right _ (List.mem_append_left _ (show _ ∈ my_202_9 from List.mem_of_getElem? (i := 45) rfl)))))))))))
theorem cd_202_932 : mt_cd 202 932 = some (.aload_n 0) := mt_cd_of (q := (932, .aload_n 0, 1)) mq_202 ci_202 (List.mem_append_right _ (List.mem_append_right _ (List.mem_append_right _ (List.mem_append_right _ (List.mem_append_right _ (List.mem_append_right _ (List.mem_append_right _ (List.mem_append_right _ (List.mem_append_right _ (List.mem_append_left _ (show _ ∈ my_202_9 from List.mem_of_getElem? (i := 46) rfl)))))))))))
theorem cd_202_933 : mt_cd 202 933 = some (.iload 4) := mt_cd_of (q := (933, .iload 4, 2)) mq_202 ci_202 (List.mem_append_right _ (List.mem_append_right _ (List.mem_append_right _ (List.mem_append_right _ (List.mem_append_right _ (List.mem_append_right _ (List.mem_append_right _ (List.mem_append_right _ (List.mem_append_right _ (List.mem_append_left _ (show _ ∈ my_202_9 from List.mem_of_getElem? (i := 47) rfl)))))))))))
theorem cd_202_935 : mt_cd 202 935 = some (.iconst 3) := mt_cd_of (q := (935, .iconst 3, 1)) mq_202 ci_202 (List.mem_append_right _ (List.mem_append_right _ (List.mem_append_right _ (List.mem_append_right _ (List.mem_append_right _ (List.mem_append_right _ (List.mem_append_right _ (List.mem_append_right _ (List.mem_append_right _ (List.mem_append_left _ (show _ ∈ my_202_9 from List.mem_of_getElem? (i := 48) rfl)))))))))))
theorem cd_202_936 : mt_cd 202 936 = some (.iadd) := mt_cd_of (q := (936, .iadd, 1)) mq_202 ci_202 (List.mem_append_right _ (List.mem_append_right _ (List.mem_append_right _ (List.mem_append_right _ (List.mem_append_right _ (List.mem_append_right _ (List.mem_append_right _ (List.mem_append_right _ (List.mem_append_right _ (List.mem_append_left _ (show _ ∈ my_202_9 from List.mem_of_getElem? (i := 49) rfl)))))))))))
theorem cd_202_937 : mt_cd 202 937 = some (.iaload) := mt_cd_of (q := (937, .iaload, 1)) mq_202 ci_202 (List.mem_append_right _ (List.mem_append_right _ (List.mem_append_right _ (List.mem_append_right _ (List.mem_append_right _ (List.mem_append_right _ (List.mem_append_right _ (List.mem_append_right _ (List.mem_append_right _ (List.mem_append_left _ (show _ ∈ my_202_9 from List.mem_of_getElem? (i := 50) rfl)))))))))))
theorem cd_202_938 : mt_cd 202 938 = some (.aload_n 3) := mt_cd_of (q := (938, .aload_n 3, 1)) mq_202 ci_202 (List.mem_append_right _ (List.mem_append_right _ (List.mem_append_right _ (List.mem_append_right _ (List.mem_append_right _ (List.mem_append_right _ (List.mem_append_right _ (List.mem_append_right _ (List.mem_append_right _ (List.mem_append_left _ (show _ ∈ my_202_9 from List.mem_of_getElem? (i := 51) rfl)))))))))))
theorem cd_202_939 : mt_cd 202 939 = some (.invokestatic 115) := mt_cd_of (q := (939, .invokestatic 115, 3)) mq_202 ci_202 (List.mem_append_right _ (List.mem_append_right _ (List.mem_append_right _ (List.mem_append_right _ (List.mem_append_right _ (List.mem_append_right _ (List.mem_append_right _ (List.mem_append_right _ (List.mem_append_right _ (List.mem_append_left _ (show _ ∈ my_202_9 from List.mem_of_getElem? (i := 52) rfl)))))))))))
theorem cd_202_942 : mt_cd 202 942 = some (.istore 5) := mt_cd_of (q := (942, .istore 5, 2)) mq_202 ci_202 (List.mem_append_right _ (List.mem_append_right _ (List.mem_append_right _ (List.mem_append_right _ (List.mem_append_right _ (List.mem_append_right _ (List.mem_append_right _ (List.mem_append_right _ (List.mem_append_right _ (List.mem_append_left _ (show _ ∈ my_202_9 from List.mem_of_getElem? (i := 53) rfl)))))))))))
theorem cd_202_944 : mt_cd 202 944 = some (.aload_n 2) := mt_cd_of (q := (944, .aload_n 2, 1)) mq_202 ci_202 (List.mem_append_right _ (List.mem_append_right _ (List.mem_append_right _ (List.mem_append_right _ (List.mem_append_right _ (List.mem_append_right _ (List.mem_append_right _ (List.mem_append_right _ (List.mem_append_right _ (List.mem_append_left _ (show _ ∈ my_202_9 from List.mem_of_getElem? (i := 54) rfl)))))))))))
theorem cd_202_945 : mt_cd 202 945 = some (.aload_n 0) := mt_cd_of (q := (945, .aload_n 0, 1)) mq_202 ci_202 (List.mem_append_right _ (List.mem_append_right _ (List.mem_append_right _ (List.mem_append_right _ (List.mem_append_right _ (List.mem_append_right _ (List.mem_append_right _ (List.mem_append_right _ (List.mem_append_right _ (List.mem_append_left _ (show _ ∈ my_202_9 from List.mem_of_getElem? (i := 55) rfl)))))))))))
theorem cd_202_946 : mt_cd 202 946 = some (.iload 4) := mt_cd_of (q := (946, .iload 4, 2)) mq_202 ci_202 (List.mem_append_right _ (List.mem_append_right _ (List.mem_append_right _ (List.mem_append_right _ (List.mem_append_right _ (List.mem_append_right _ (List.mem_append_right _ (List.mem_append_right _ (List.mem_append_right _ (List.mem_append_left _ (show _ ∈ my_202_9 from List.mem_of_getElem? (i := 56) rfl)))))))))))
theorem cd_202_948 : mt_cd 202 948 = some (.iconst 1) := mt_cd_of (q := (948, .iconst 1, 1)) mq_202 ci_202 (List.mem_append_right _ (List.mem_append_right _ (List.mem_append_right _ (List.mem_append_right _ (List.mem_append_right _ (List.mem_append_right _ (List.mem_append_right _ (List.mem_append_right _ (List.mem_append_right _ (List.mem_append_left _ (show _ ∈ my_202_9 from List.mem_of_getElem? (i := 57) rfl)))))))))))
theorem cd_202_949 : mt_cd 202 949 = some (.iadd) := mt_cd_of (q := (949, .iadd, 1)) mq_202 ci_202 (List.mem_append_right _ (List.mem_append_right _ (List.mem_append_right _ (List.mem_append_right _ (List.mem_append_right _ (List.mem_append_right _ (List.mem_append_right _ (List.mem_append_right _ (List.mem_append_right _ (List.mem_append_left _ (show _ ∈ my_202_9 from List.mem_of_getElem? (i := 58) rfl)))))))))))
theorem cd_202_950 : mt_cd 202 950 = some (.iaload) := mt_cd_of (q := (950, .iaload, 1)) mq_202 ci_202 (List.mem_append_right _ (List.mem_append_right _ (List.mem_append_right _ (List.mem_append_right _ (List.mem_append_right _ (List.mem_append_right _ (List.mem_append_right _ (List.mem_append_right _ (List.mem_append_right _ (List.mem_append_left _ (show _ ∈ my_202_9 from List.mem_of_getElem? (i := 59) rfl)))))))))))
theorem cd_202_951 : mt_cd 202 951 = some (.aload_n 0) := mt_cd_of (q := (951, .aload_n 0, 1)) mq_202 ci_202 (List.mem_append_right _ (List.mem_append_right _ (List.mem_append_right _ (List.mem_append_right _ (List.mem_append_right _ (List.mem_append_right _ (List.mem_append_right _ (List.mem_append_right _ (List.mem_append_right _ (List.mem_append_right _ (List.mem_append_left _ (show _ ∈ my_202_10 from List.mem_of_getElem? (i := 0) rfl))))))))))))
theorem cd_202_952 : mt_cd 202 952 = some (.iload 4) := mt_cd_of (q := (952, .iload 4, 2)) mq_202 ci_202 (List.mem_append_right _ (List.mem_append_right _ (List.mem_append_right _ (List.mem_append_right _ (List.mem_append_right _ (List.mem_append_right _ (List.mem_append_right _ (List.mem_append_right _ (List.mem_append_right _ (List.mem_append_right _ (List.mem_append_left _ (show _ ∈ my_202_10 from List.mem_of_getElem? (i := 1) rfl))))))))))))
theorem cd_202_954 : mt_cd 202 954 = some (.iconst 2) := mt_cd_of (q := (954, .iconst 2, 1)) mq_202 ci_202 (List.mem_append_right _ (List.mem_append_right _ (List.mem_append_right _ (List.mem_append_right _ (List.mem_append_right _ (List.mem_append_right _ (List.mem_append_right _ (List.mem_append_right _ (List.mem_append_right _ (List.mem_append_right _ (List.mem_append_left _ (show _ ∈ my_202_10 from List.mem_of_getElem? (i := 2) rfl))))))))))))
theorem cd_202_955 : mt_cd 202 955 = some (.iadd) := mt_cd_of (q := (955, .iadd, 1)) mq_202 ci_202 (List.mem_append_right _ (List.mem_append_right _ (List.mem_append_right _ (List.mem_append_right _ (List.mem_append_right _ (List.mem_append_right _ (List.mem_append_right _ (List.mem_append_right _ (List.mem_append_right _ (List.mem_append_right _ (List.mem_append_left _ (show _ ∈ my_202_10 from List.mem_of_getElem? (i := 3) rfl))))))))))))
theorem cd_202_956 : mt_cd 202 956 = some (.iaload) := mt_cd_of (q := (956, .iaload, 1)) mq_202 ci_202 (List.mem_append_right _ (List.mem_append_right _ (List.mem_append_right _ (List.mem_append_right _ (List.mem_append_right _ (List.mem_append_right _ (List.mem_append_right _ (List.mem_append_right _ (List.mem_append_right _ (List.mem_append_right _ (List.mem_append_left _ (show _ ∈ my_202_10 from List.mem_of_getElem? (i := 4) rfl))))))))))))
theorem cd_202_957 : mt_cd 202 957 = some (.aload_n 0) := mt_cd_of (q := (957, .aload_n 0, 1)) mq_202 ci_202 (List.mem_append_right _ (List.mem_append_right _ (List.mem_append_right _ (List.mem_append_right _ (List.mem_append_right _ (List.mem_append_right _ (List.mem_append_right _ (List.mem_append_right _ (List.mem_append_right _ (List.mem_append_right _ (List.mem_append_left _ (show _ ∈ my_202_10 from List.mem_of_getElem? (i := 5) rfl))))))))))))
theorem cd_202_958 : mt_cd 202 958 = some (.iload 4) := mt_cd_of (q := (958, .iload 4, 2)) mq_202 ci_202 (List.mem_append_right _ (List.mem_append_right _ (List.mem_append_right _ (List.mem_append_right _ (List.mem_append_right _ (List.mem_append_right _ (List.mem_append_right _ (List.mem_append_right _ (List.mem_append_right _ (List.mem_append_right _ (List.mem_append_left _ (show _ ∈ my_202_10 from List.mem_of_getElem? (i := 6) rfl))))))))))))
theorem cd_202_960 : mt_cd 202 960 = some (.iconst 3) := mt_cd_of (q := (960, .iconst 3, 1)) mq_202 ci_202 (List.mem_append_right _ (List.mem_append_right _ (List.mem_append_right _ (List.mem_append_right _ (List.mem_append_right _ (List.mem_append_right _ (List.mem_append_right _ (List.mem_append_right _ (List.mem_append_right _ (List.mem_append_right _ (List.mem_append_left _ (show _ ∈ my_202_10 from List.mem_of_getElem? (i := 7) rfl))))))))))))
theorem cd_202_961 : mt_cd 202 961 = some (.iadd) := mt_cd_of (q := (961, .iadd, 1)) mq_202 ci_202 (List.mem_append_right _ (List.mem_append_right _ (List.mem_append_right _ (List.mem_append_right _ (List.mem_append_right _ (List.mem_append_right _ (List.mem_append_right _ (List.mem_append_right _ (List.mem_append_right _ (List.mem_append_right _ (List.mem_append_left _ (show _ ∈ my_202_10 from List.mem_of_getElem? (i := 8) rfl))))))))))))
theorem cd_202_962 : mt_cd 202 962 = some (.iaload) := mt_cd_of (q := (962, .iaload, 1)) mq_202 ci_202 (List.mem_append_right _ (List.mem_append_right _ (List.mem_append_right _ (List.mem_append_right _ (List.mem_append_right _ (List.mem_append_right _ (List.mem_append_right _ (List.mem_append_right _ (List.mem_append_right _ (List.mem_append_right _ (List.mem_append_left _ (show _ ∈ my_202_10 from List.mem_of_getElem? (i := 9) rfl))))))))))))
theorem cd_202_963 : mt_cd 202 963 = some (.invokevirtual 118) := mt_cd_of (q := (963, .invokevirtual 118, 3)) mq_202 ci_202 (List.mem_append_right _ (List.mem_append_right _ (List.mem_append_right _ (List.mem_append_right _ (List.mem_append_right _ (List.mem_append_right _ (List.mem_append_right _ (List.mem_append_right _ (List.mem_append_right _ (List.mem_append_right _ (List.mem_append_left _ (show _ ∈ my_202_10 from List.mem_of_getElem? (i := 10) rfl))))))))))))
theorem cd_202_966 : mt_cd 202 966 = some (.lstore 6) := mt_cd_of (q := (966, .lstore 6, 2)) mq_202 ci_202 (List.mem_append_right _ (List.mem_append_right _ (List.mem_append_right _ (List.mem_append_right _ (List.mem_append_right _ (List.mem_append_right _ (List.mem_append_right _ (List.mem_append_right _ (List.mem_append_right _ (List.mem_append_right _ (List.mem_append_left _ (show _ ∈ my_202_10 from List.mem_of_getElem? (i := 11) rfl))))))))))))
theorem cd_202_968 : mt_cd 202 968 = some (.aload_n 2) := mt_cd_of (q := (968, .aload_n 2, 1)) mq_202 ci_202 (List.mem_append_right _ (List.mem_append_right _ (List.mem_append_right _ (List.mem_append_right _ (List.mem_append_right _ (List.mem_append_right _ (List.mem_append_right _ (List.mem_append_right _ (List.mem_append_right _ (List.mem_append_right _ (List.mem_append_left _ (show _ ∈ my_202_10 from List.mem_of_getElem? (i := 12) rfl))))))))))))
theorem cd_202_969 : mt_cd 202 969 = some (.invokevirtual 75) := mt_cd_of (q := (969, .invokevirtual 75, 3)) mq_202 ci_202 (List.mem_append_right _ (List.mem_append_right _ (List.mem_append_right _ (List.mem_append_right _ (List.mem_append_right _ (List.mem_append_right _ (List.mem_append_right _ (List.mem_append_right _ (List.mem_append_right _ (List.mem_append_right _ (List.mem_append_left _ (show _ ∈ my_202_10 from List.mem_of_getElem? (i := 13) rfl))))))))))))
theorem cd_202_972 : mt_cd 202 972 = some (.iload 5) := mt_cd_of (q := (972, .iload 5, 2)) mq_202 ci_202 (List.mem_append_right _ (List.mem_append_right _ (List.mem_append_right _ (List.mem_append_right _ (List.mem_append_right _ (List.mem_append_right _ (List.mem_append_right _ (List.mem_append_right _ (List.mem_append_right _ (List.mem_append_right _ (List.mem_append_left _ (show _ ∈ my_202_10 from List.mem_of_getElem? (i := 14) rfl))))))))))))
theorem cd_202_974 : mt_cd 202 974 = some (.if_icmp .eq 5) := mt_cd_of (q := (974, .if_icmp .eq 5, 3)) mq_202 ci_202 (List.mem_append_right _ (List.mem_append_right _ (List.mem_append_right _ (List.mem_append_right _ (List.mem_append_right _ (List.mem_append_right _ (List.mem_append_right _ (List.mem_append_right _ (List.mem_append_right _ (List.mem_append_right _ (List.mem_append_left _ (show _ ∈ my_202_10 from List.mem_of_getElem? (i := 15) rfl))))))))))))
theorem cd_202_977 : mt_cd 202 977 = some (.iconst 0) := mt_cd_of (q := (977, .iconst 0, 1)) mq_202 ci_202 (List.mem_append_right _ (List.mem_append_right _ (List.mem_append_right _ (List.mem_append_right _ (List.mem_append_right _ (List.mem_append_right _ (List.mem_append_right _ (List.mem_append_right _ (List.mem_append_right _ (List.mem_append_right _ (List.mem_append_left _ (show _ ∈ my_202_10 from List.mem_of_getElem? (i := 16) rfl))))))))))))
theorem cd_202_978 : mt_cd 202 978 = some (.ireturn) := mt_cd_of (q := (978, .ireturn, 1)) mq_202 ci_202 (List.mem_append_right _ (List.mem_append_right _ (List.mem_append_right _ (List.mem_append_right _ (List.mem_append_right _ (List.mem_append_right _ (List.mem_append_right _ (List.mem_append_right _ (List.mem_append_right _ (List.mem_append_right _ (List.mem_append_left _ (show _ ∈ my_202_10 from List.mem_of_getElem? (i := 17) rfl))))))))))))
theorem cd_202_979 : mt_cd 202 979 = some (.iload 5) := mt_cd_of (q := (979, .iload 5, 2)) mq_202 ci_202 (List.mem_append_right _ (List.mem_append_right _ (List.mem_append_right _ (List.mem_append_right _ (List.mem_append_right _ (List.mem_append_right _ (List.mem_append_right _ (List.mem_append_right _ (List.mem_append_right _ (List.mem_append_right _ (List.mem_append_left _ (show _ ∈ my_202_10 from List.mem_of_getElem? (i := 18) rfl))))))))))))
theorem cd_202_981 : mt_cd 202 981 = some (.ifCond .ne 14) := mt_cd_of (q := (981, .ifCond .ne 14, 3)) mq_202 ci_202 (List.mem_append_right _ (List.mem_append_right _ (List.mem_append_right _ (List.mem_append_right _ (List.mem_append_right _ (List.mem_append_right _ (List.mem_append_right _ (List.mem_append_right _ (List.mem_append_right _ (List.mem_append_right _ (List.mem_append_left _ (show _ ∈ my_202_10 from List.mem_of_getElem? (i := 19) rfl))))))))))))
theorem cd_202_984 : mt_cd 202 984 = some (.aload_n 3) := mt_cd_of (q := (984, .aload_n 3, 1)) mq_202 ci_202 (List.mem_append_right _ (List.mem_append_right _ (List.mem_append_right _ (List.mem_append_right _ (List.mem_append_right _ (List.mem_append_right _ (List.mem_append_right _ (List.mem_append_right _ (List.mem_append_right _ (List.mem_append_right _ (List.mem_append_left _ (show _ ∈ my_202_10 from List.mem_of_getElem? (i := 20) rfl))))))))))))
theorem cd_202_985 : mt_cd 202 985 = some (.iconst 0) := mt_cd_of (q := (985, .iconst 0, 1)) mq_202 ci_202 (List.mem_append_right _ (List.mem_append_right _ (List.mem_append_right _ (List.mem_append_right _ (List.mem_append_right _ (List.mem_append_right _ (List.mem_append_right _ (List.mem_append_right _ (List.mem_append_right _ (List.mem_append_right _ (List.mem_append_left _ (show _ ∈ my_202_10 from List.mem_of_getElem? (i := 21) rfl))))))))))))
theorem cd_202_986 : mt_cd 202 986 = some (.laload) := mt_cd_of (q := (986, .laload, 1)) mq_202 ci_202 (List.mem_append_right _ (List.mem_append_right _ (List.mem_append_right _ (List.mem_append_right _ (List.mem_append_right _ (List.mem_append_right _ (List.mem_append_right _ (List.mem_append_right _ (List.mem_append_right _ (List.mem_append_right _ (List.mem_append_left _ (show _ ∈ my_202_10 from List.mem_of_getElem? (i := 22) rfl))))))))))))
theorem cd_202_987 : mt_cd 202 987 = some (.lload 6) := mt_cd_of (q := (987, .lload 6, 2)) mq_202 ci_202 (List.mem_append_right _ (List.mem_append_right _ (List.mem_append_right _ (List.mem_append_right _ (List.mem_append_right _ (List.mem_append_right _ (List.mem_append_right _ (List.mem_append_right _ (List.mem_append_right _ (List.mem_append_right _ (List.mem_append_left _ (show _ ∈ my_202_10 from List.mem_of_getElem? (i := 23) rfl))))))))))))
theorem cd_202_989 : mt_cd 202 989 = some (.lcmp) := mt_cd_of (q := (989, .lcmp, 1)) mq_202 ci_202 (List.mem_append_right _ (List.mem_append_right _ (List.mem_append_right _ (List.mem_append_right _ (List.mem_append_right _ (List.mem_append_right _ (List.mem_append_right _ (List.mem_append_right _ (List.mem_append_right _ (List.mem_append_right _ (List.mem_append_left _ (show _ ∈ my_202_10 from List.mem_of_getElem? (i := 24) rfl))))))))))))
theorem cd_202_990 : mt_cd 202 990 = some (.ifCond .eq 5) := mt_cd_of (q := (990, .ifCond .eq 5, 3)) mq_202 ci_202 (List.mem_append_right _ (List.mem_append_right _ (List.mem_append_right _ (List.mem_append_right _ (List.mem_append_right _ (List.mem_append_right _ (List.mem_append_right _ (List.mem_append_right _ (List.mem_append_right _ (List.mem_append_right _ (List.mem_append_left _ (show _ ∈ my_202_10 from List.mem_of_getElem? (i := 25) rfl))))))))))))
theorem cd_202_993 : mt_cd 202 993 = some (.iconst 0) := mt_cd_of (q := (993, .iconst 0, 1)) mq_202 ci_202 (List.mem_append_right _ (List.mem_append_right _ (List.mem_append_right _ (List.mem_append_right _ (List.mem_append_right _ (List.mem_append_right _ (List.mem_append_right _ (List.mem_append_right _ (List.mem_append_right _ (List.mem_append_right _ (List.mem_append_left _ (show _ ∈ my_202_10 from List.mem_of_getElem? (i := 26) rfl))))))))))))
theorem cd_202_994 : mt_cd 202 994 = some (.ireturn) := mt_cd_of (q := (994, .ireturn, 1)) mq_202 ci_202 (List.mem_append_right _ (List.mem_append_right _ (List.mem_append_right _ (List.mem_append_right _ (List.mem_append_right _ (List.mem_append_right _ (List.mem_append_right _ (List.mem_append_right _ (List.mem_append_right _ (List.mem_append_right _ (List.mem_append_left _ (show _ ∈ my_202_10 from List.mem_of_getElem? (i := 27) rfl))))))))))))
theorem cd_202_995 : mt_cd 202 995 = some (.goto 170) := mt_cd_of (q := (995, .goto 170, 3)) mq_202 ci_202 (List.mem_append_right _ (List.mem_append_right _ (List.mem_append_right _ (List.mem_append_right _ (List.mem_append_right _ (List.mem_append_right _ (List.mem_append_right _ (List.mem_append_right _ (List.mem_append_right _ (List.mem_append_right _ (List.mem_append_left _ (show _ ∈ my_202_10 from List.mem_of_getElem? (i := 28) rfl))))))))))))
theorem cd_202_998 : mt_cd 202 998 = some (.aload_n 1) := mt_cd_of (q := (998, .aload_n 1, 1)) mq_202 ci_202 (List.mem_append_right _ (List.mem_append_right _ (List.mem_append_right _ (List.mem_append_right _ (List.mem_append_right _ (List.mem_append_right _ (List.mem_append_right _ (List.mem_append_right _ (List.mem_append_right _ (List.mem_append_right _ (List.mem_append_left _ (show _ ∈ my_202_10 from List.mem_of_getElem? (i := 29) rfl))))))))))))
theorem cd_202_999 : mt_cd 202 999 = some (.aload_n 3) := mt_cd_of (q := (999, .aload_n 3, 1)) mq_202 ci_202 (List.mem_append_right _ (List.mem_append_right _ (List.mem_append_right _ (List.mem_append_right _ (List.mem_append_right _ (List.mem_append_right _ (List.mem_append_right _ (List.mem_append_right _ (List.mem_append_right _ (List.mem_append_right _ (List.mem_append_left _ (show _ ∈ my_202_10 from List.mem_of_getElem? (i := 30) rfl))))))))))))
theorem cd_202_1000 : mt_cd 202 1000 = some (.invokestatic 119) := mt_cd_of (q := (1000, .invokestatic 119, 3)) mq_202 ci_202 (List.mem_append_right _ (List.mem_append_right _ (List.mem_append_right _ (List.mem_append_right _ (List.mem_append_right _ (List.mem_append_right _ (List.mem_append_right _ (List.mem_append_right _ (List.mem_append_right _ (List.mem_append_right _ (List.mem_append_left _ (show _ ∈ my_202_10 from List.mem_of_getElem? (i := 31) rfl))))))))))))
theorem cd_202_1003 : mt_cd 202 1003 = some (.istore 5) := mt_cd_of (q := (1003, .istore 5, 2)) mq_202 ci_202 (List.mem_append_right _ (List.mem_append_right _ (List.mem_append_right _ (List.mem_append_right _ (List.mem_append_right _ (List.mem_append_right _ (List.mem_append_right _ (List.mem_append_right _ (List.mem_append_right _ (List.mem_append_right _ (List.mem_append_left _ (show _ ∈ my_202_10 from List.mem_of_getElem? (i := 32) rfl))))))))))))
theorem cd_202_1005 : mt_cd 202 1005 = some (.aload_n 2) := mt_cd_of (q := (1005, .aload_n 2, 1)) mq_202 ci_202 (List.mem_append_right _ (List.mem_append_right _ (List.mem_append_right _ (List.mem_append_right _ (List.mem_append_right _ (List.mem_append_right _ (List.mem_append_right _ (List.mem_append_right _ (List.mem_append_right _ (List.mem_append_right _ (List.mem_append_left _ (show _ ∈ my_202_10 from List.mem_of_getElem? (i := 33) rfl))))))))))))
theorem cd_202_1006 : mt_cd 202 1006 = some (.invokevirtual 121) := mt_cd_of (q := (1006, .invokevirtual 121, 3)) mq_202 ci_202 (List.mem_append_right _ (List.mem_append_right _ (List.mem_append_right _ (List.mem_append_right _ (List.mem_append_right _ (List.mem_append_right _ (List.mem_append_right _ (List.mem_append_right _ (List.mem_append_right _ (List.mem_append_right _ (List.mem_append_left _ (show _ ∈ my_202_10 from List.mem_of_getElem? (i := 34) rfl))))))))))))
theorem cd_202_1009 : mt_cd 202 1009 = some (.istore 6) := mt_cd_of (q := (1009, .istore 6, 2)) mq_202 ci_202 (List.mem_append_right _ (List.mem_append_right _ (List.mem_append_right _ (List.mem_append_right _ (List.mem_append_right _ (List.mem_append_right _ (List.mem_append_right _ (List.mem_append_right _ (List.mem_append_right _ (List.mem_append_right _ (List.mem_append_left _ (show _ ∈ my_202_10 from List.mem_of_getElem? (i := 35) rfl))))))))))))
theorem cd_202_1011 : mt_cd 202 1011 = some (.aload_n 2) := mt_cd_of (q := (1011, .aload_n 2, 1)) mq_202 ci_202 (List.mem_append_right _ (List.mem_append_right _ (List.mem_append_right _ (List.mem_append_right _ (List.mem_append_right _ (List.mem_append_right _ (List.mem_append_right _ (List.mem_append_right _ (List.mem_append_right _ (List.mem_append_right _ (List.mem_append_left _ (show _ ∈ my_202_10 from List.mem_of_getElem? (i := 36) rfl))))))))))))
theorem cd_202_1012 : mt_cd 202 1012 = some (.invokevirtual 75) := mt_cd_of (q := (1012, .invokevirtual 75, 3)) mq_202 ci_202 (List.mem_append_right _ (List.mem_append_right _ (List.mem_append_right _ (List.mem_append_right _ (List.mem_append_right _ (List.mem_append_right _ (List.mem_append_right _ (List.mem_append_right _ (List.mem_append_right _ (List.mem_append_right _ (List.mem_append_left _ (show _ ∈ my_202_10 from List.mem_of_getElem? (i := 37) rfl))))))))))))
theorem cd_202_1015 : mt_cd 202 1015 = some (.iload 5) := mt_cd_of (q := (1015, .iload 5, 2)) mq_202 ci_202 (List.mem_append_right _ (List.mem_append_right _ (List.mem_append_right _ (List.mem_append_right _ (List.mem_append_right _ (List.mem_append_right _ (List.mem_append_right _ (List.mem_append_right _ (List.mem_append_right _ (List.mem_append_right _ (List.mem_append_left _ (show _ ∈ my_202_10 from List.mem_of_getElem? (i := 38) rfl))))))))))))
theorem cd_202_1017 : mt_cd 202 1017 = some (.if_icmp .eq 5) := mt_cd_of (q := (1017, .if_icmp .eq 5, 3)) mq_202 ci_202 (List.mem_append_right _ (List.mem_append_right _ (List.mem_append_right _ (List.mem_append_right _ (List.mem_append_right _ (List.mem_append_right _ (List.mem_append_right _ (List.mem_append_right _ (List.mem_append_right _ (List.mem_append_right _ (List.mem_append_left _ (show _ ∈ my_202_10 from List.mem_of_getElem? (i := 39) rfl))))))))))))
theorem cd_202_1020 : mt_cd 202 1020 = some (.iconst 0) := mt_cd_of (q := (1020, .iconst 0, 1)) mq_202 ci_202 (List.mem_append_right _ (List.mem_append_right _ (List.mem_append_right _ (List.mem_append_right _ (List.mem_append_right _ (List.mem_append_right _ (List.mem_append_right _ (List.mem_append_right _ (List.mem_append_right _ (List.mem_append_right _ (List.mem_append_left _ (show _ ∈ my_202_10 from List.mem_of_getElem? (i := 40) rfl))))))))))))
theorem cd_202_1021 : mt_cd 202 1021 = some (.ireturn) := mt_cd_of (q := (1021, .ireturn, 1)) mq_202 ci_202 (List.mem_append_right _ (List.mem_append_right _ (List.mem_append_right _ (List.mem_append_right _ (List.mem_append_right _ (List.mem_append_right _ (List.mem_append_right _ (List.mem_append_right _ (List.mem_append_right _ (List.mem_append_right _ (List.mem_append_left _ (show _ ∈ my_202_10 from List.mem_of_getElem? (i := 41) rfl))))))))))))
theorem cd_202_1022 : mt_cd 202 1022 = some (.iload 5) := mt_cd_of (q := (1022, .iload 5, 2)) mq_202 ci_202 (List.mem_append_right _ (List.mem_append_right _ (List.mem_append_right _ (List.mem_append_right _ (List.mem_append_right _ (List.mem_append_right _ (List.mem_append_right _ (List.mem_append_right _ (List.mem_append_right _ (List.mem_append_right _ (List.mem_append_left _ (show _ ∈ my_202_10 from List.mem_of_getElem? (i := 42) rfl))))))))))))
theorem cd_202_1024 : mt_cd 202 1024 = some (.ifCond .ne 15) := mt_cd_of (q := (1024, .ifCond .ne 15, 3)) mq_202 ci_202 (List.mem_append_right _ (List.mem_append_right _ (List.mem_append_right _ (List.mem_append_right _ (List.mem_append_right _ (List.mem_append_right _ (List.mem_append_right _ (List.mem_append_right _ (List.mem_append_right _ (List.mem_append_right _ (List.mem_append_left _ (show _ ∈ my_202_10 from List.mem_of_getElem? (i := 43) rfl))))))))))))
theorem cd_202_1027 : mt_cd 202 1027 = some (.aload_n 3) := mt_cd_of (q := (1027, .aload_n 3, 1)) mq_202 ci_202 (List.mem_append_right _ (List.mem_append_right _ (List.mem_append_right _ (List.mem_append_right _ (List.mem_append_right _ (List.mem_append_right _ (List.mem_append_right _ (List.mem_append_right _ (List.mem_append_right _ (List.mem_append_right _ (List.mem_append_left _ (show _ ∈ my_202_10 from List.mem_of_getElem? (i := 44) rfl))))))))))))
theorem cd_202_1028 : mt_cd 202 1028 = some (.iconst 0) := mt_cd_of (q := (1028, .iconst 0, 1)) mq_202 ci_202 (List.mem_append_right _ (List.mem_append_right _ (List.mem_append_right _ (List.mem_append_right _ (List.mem_append_right _ (List.mem_append_right _ (List.mem_append_right _ (List.mem_append_right _ (List.mem_append_right _ (List.mem_append_right _ (List.mem_append_left _ (show _ ∈ my_202_10 from List.mem_of_getElem? (i := 45) rfl))))))))))))
theorem cd_202_1029 : mt_cd 202 1029 = some (.laload) := mt_cd_of (q := (1029, .laload, 1)) mq_202 ci_202 (List.mem_append_right _ (List.mem_append_right _ (List.mem_append_right _ (List.mem_append_right _ (List.mem_append_right _ (List.mem_append_right _ (List.mem_append_right _ (List.mem_append_right _ (List.mem_append_right _ (List.mem_append_right _ (List.mem_append_left _ (show _ ∈ my_202_10 from List.mem_of_getElem? (i := 46) rfl))))))))))))
theorem cd_202_1030 : mt_cd 202 1030 = some (.iload 6) := mt_cd_of (q := (1030, .iload 6, 2)) mq_202 ci_202 (List.mem_append_right _ (List.mem_append_right _ (List.mem_append_right _ (List.mem_append_right _ (List.mem_append_right _ (List.mem_append_right _ (List.mem_append_right _ (List.mem_append_right _ (List.mem_append_right _ (List.mem_append_right _ (List.mem_append_left _ (show _ ∈ my_202_10 from List.mem_of_getElem? (i := 47) rfl))))))))))))
theorem cd_202_1032 : mt_cd 202 1032 = some (.i2l) := mt_cd_of (q := (1032, .i2l, 1)) mq_202 ci_202 (List.mem_append_right _ (List.mem_append_right _ (List.mem_append_right _ (List.mem_append_right _ (List.mem_append_right _ (List.mem_append_right _ (List.mem_append_right _ (List.mem_append_right _ (List.mem_append_right _ (List.mem_append_right _ (List.mem_append_left _ (show _ ∈ my_202_10 from List.mem_of_getElem? (i := 48) rfl))))))))))))
theorem cd_202_1033 : mt_cd 202 1033 = some (.lcmp) := mt_cd_of (q := (1033, .lcmp, 1)) mq_202 ci_202 (List.mem_append_right _ (List.mem_append_right _ (List.mem_append_right _ (List.mem_append_right _ (List.mem_append_right _ (List.mem_append_right _ (List.mem_append_right _ (List.mem_append_right _ (List.mem_append_right _ (List.mem_append_right _ (List.mem_append_left _ (show _ ∈ my_202_10 from List.mem_of_getElem? (i := 49) rfl))))))))))))
theorem cd_202_1034 : mt_cd 202 1034 = some (.ifCond .eq 5) := mt_cd_of (q := (1034, .ifCond .eq 5, 3)) mq_202 ci_202 (List.mem_append_right _ (List.mem_append_right _ (List.mem_append_right _ (List.mem_append_right _ (List.mem_append_right _ (List.mem_append_right _ (List.mem_append_right _ (List.mem_append_right _ (List.mem_append_right _ (List.mem_append_right _ (List.mem_append_left _ (show _ ∈ my_202_10 from List.mem_of_getElem? (i := 50) rfl))))))))))))
theorem cd_202_1037 : mt_cd 202 1037 = some (.iconst 0) := mt_cd_of (q := (1037, .iconst 0, 1)) mq_202 ci_202 (List.mem_append_right _ (List.mem_append_right _ (List.mem_append_right _ (List.mem_append_right _ (List.mem_append_right _ (List.mem_append_right _ (List.mem_append_right _ (List.mem_append_right _ (List.mem_append_right _ (List.mem_append_right _ (List.mem_append_left _ (show _ ∈ my_202_10 from List.mem_of_getElem? (i := 51) rfl))))))))))))
theorem cd_202_1038 : mt_cd 202 1038 = some (.ireturn) := mt_cd_of (q := (1038, .ireturn, 1)) mq_202 ci_202 (List.mem_append_right _ (List.mem_append_right _ (List.mem_append_right _ (List.mem_append_right _ (List.mem_append_right _ (List.mem_append_right _ (List.mem_append_right _ (List.mem_append_right _ (List.mem_append_right _ (List.mem_append_right _ (List.mem_append_left _ (show _ ∈ my_202_10 from List.mem_of_getElem? (i := 52) rfl))))))))))))
theorem cd_202_1039 : mt_cd 202 1039 = some (.goto 126) := mt_cd_of (q := (1039, .goto 126, 3)) mq_202 ci_202 (List.mem_append_right _ (List.mem_append_right _ (List.mem_append_right _ (List.mem_append_right _ (List.mem_append_right _ (List.mem_append_right _ (List.mem_append_right _ (List.mem_append_right _ (List.mem_append_right _ (List.mem_append_right _ (List.mem_append_left _ (show _ ∈ my_202_10 from List.mem_of_getElem? (i := 53) rfl))))))))))))
theorem cd_202_1042 : mt_cd 202 1042 = some (.aload_n 1) := mt_cd_of (q := (1042, .aload_n 1, 1)) mq_202 ci_202 (List.mem_append_right _ (List.mem_append_right _ (List.mem_append_right _ (List.mem_append_right _ (List.mem_append_right _ (List.mem_append_right _ (List.mem_append_right _ (List.mem_append_right _ (List.mem_append_right _ (List.mem_append_right _ (List.mem_append_left _ (show _ ∈ my_202_10 from List.mem_of_getElem? (i := 54) rfl))))))))))))
theorem cd_202_1043 : mt_cd 202 1043 = some (.aload_n 0) := mt_cd_of (q := (1043, .aload_n 0, 1)) mq_202 ci_202 (List.mem_append_right _ (List.mem_append_right _ (List.mem_append_right _ (List.mem_append_right _ (List.mem_append_right _ (List.mem_append_right _ (List.mem_append_right _ (List.mem_append_right _ (List.mem_append_right _ (List.mem_append_right _ (List.mem_append_left _ (show _ ∈ my_202_10 from List.mem_of_getElem? (i := 55) rfl))))))))))))
theorem cd_202_1044 : mt_cd 202 1044 = some (.iload 4) := mt_cd_of (q := (1044, .iload 4, 2)) mq_202 ci_202 (List.mem_append_right _ (List.mem_append_right _ (List.mem_append_right _ (List.mem_append_right _ (List.mem_append_right _ (List.mem_append_right _ (List.mem_append_right _ (List.mem_append_right _ (List.mem_append_right _ (List.mem_append_right _ (List.mem_append_left _ (show _ ∈ my_202_10 from List.mem_of_getElem? (i := 56) rfl))))))))))))
theorem cd_202_1046 : mt_cd 202 1046 = some (.iconst 1) := mt_cd_of (q := (1046, .iconst 1, 1)) mq_202 ci_202 (List.mem_append_right _ (List.mem_append_right _ (List.mem_append_right _ (List.mem_append_right _ (List.mem_append_right _ (List.mem_append_right _ (List.mem_append_right _ (List.mem_append_right _ (List.mem_append_right _ (List.mem_append_right _ (List.mem_append_left _ (show _ ∈ my_202_10 from List.mem_of_getElem? (i := 57) rfl))))))))))))
theorem cd_202_1047 : mt_cd 202 1047 = some (.iadd) := mt_cd_of (q := (1047, .iadd, 1)) mq_202 ci_202 (List.mem_append_right _ (List.mem_append_right _ (List.mem_append_right _ (List.mem_append_right _ (List.mem_append_right _ (List.mem_append_right _ (List.mem_append_right _ (List.mem_append_right _ (List.mem_append_right _ (List.mem_append_right _ (List.mem_append_left _ (show _ ∈ my_202_10 from List.mem_of_getElem? (i := 58) rfl))))))))))))
theorem cd_202_1048 : mt_cd 202 1048 = some (.iaload) := mt_cd_of (q := (1048, .iaload, 1)) mq_202 ci_202 (List.mem_append_right _ (List.mem_append_right _ (List.mem_append_right _ (List.mem_append_right _ (List.mem_append_right _ (List.mem_append_right _ (List.mem_append_right _ (List.mem_append_right _ (List.mem_append_right _ (List.mem_append_right _ (List.mem_append_left _ (show _ ∈ my_202_10 from List.mem_of_getElem? (i := 59) rfl))))))))))))
theorem cd_202_1049 : mt_cd 202 1049 = some (.aload_n 0) := mt_cd_of (q := (1049, .aload_n 0, 1)) mq_202 ci_202 (List.mem_append_right _ (List.mem_append_right _ (List.mem_append_right _ (List.mem_append_right _ (List.mem_append_right _ (List.mem_append_right _ (List.mem_append_right _ (List.mem_append_right _ (List.mem_append_right _ (List.mem_append_right _ (List.mem_append_right _ (List.mem_append_left _ (show _ ∈ my_202_11 from List.mem_of_getElem? (i := 0) rfl)))))))))))))
theorem cd_202_1050 : mt_cd 202 1050 = some (.iload 4) := mt_cd_of (q := (1050, .iload 4, 2)) mq_202 ci_202 (List.mem_append_right _ (List.mem_append_right _ (List.mem_append_right _ (List.mem_append_right _ (List.mem_append_right _ (List.mem_append_right _ (List.mem_append_right _ (List.mem_append_right _ (List.mem_append_right _ (List.mem_append_right _ (List.mem_append_right _ (List.mem_append_left _ (show _ ∈ my_202_11 from List.mem_of_getElem? (i := 1) rfl)))))))))))))
theorem cd_202_1052 : mt_cd 202 1052 = some (.iconst 2) := mt_cd_of (q := (1052, .iconst 2, 1)) mq_202 ci_202 (List.mem_append_right _ (List.mem_append_right _ (List.mem_append_right _ (List.mem_append_right _ (List.mem_append_right _ (List.mem_append_right _ (List.mem_append_right _ (List.mem_append_right _ (List.mem_append_right _ (List.mem_append_right _ (List.mem_append_right _ (List.mem_append_left _ (show _ ∈ my_202_11 from List.mem_of_getElem? (i := 2) rfl)))))))))))))
theorem cd_202_1053 : mt_cd 202 1053 = some (.iadd) := mt_cd_of (q := (1053, .iadd, 1)) mq_202 ci_202 (List.mem_append_right _ (List.mem_append_right _ (List.mem_append_right _ (List.mem_append_right _ (List.mem_append_right _ (List.mem_append_right _ (List.mem_append_right _ (List.mem_append_right _ (List.mem_append_right _ (List.mem_append_right _ (List.mem_append_right _ (List.mem_append_left _ (show _ ∈ my_202_11 from List.mem_of_getElem? (i := 3) rfl)))))))))))))
theorem cd_202_1054 : mt_cd 202 1054 = some (.iaload) := mt_cd_of (q := (1054, .iaload, 1)) mq_202 ci_202 (List.mem_append_right _ (List.mem_append_right _ (List.mem_append_right _ (List.mem_append_right _ (List.mem_append_right _ (List.mem_append_right _ (List.mem_append_right _ (List.mem_append_right _ (List.mem_append_right _ (List.mem_append_right _ (List.mem_append_right _ (List.mem_append_left _ (show _ ∈ my_202_11 from List.mem_of_getElem? (i := 4) rfl)))))))))))))
theorem cd_202_1055 : mt_cd 202 1055 = some (.aload_n 3) := mt_cd_of (q := (1055, .aload_n 3, 1)) mq_202 ci_202 (List.mem_append_right _ (List.mem_append_right _ (List.mem_append_right _ (List.mem_append_right _ (List.mem_append_right _ (List.mem_append_right _ (List.mem_append_right _ (List.mem_append_right _ (List.mem_append_right _ (List.mem_append_right _ (List.mem_append_right _ (List.mem_append_left _ (show _ ∈ my_202_11 from List.mem_of_getElem? (i := 5) rfl)))))))))))))
theorem cd_202_1056 : mt_cd 202 1056 = some (.invokestatic 122) := mt_cd_of (q := (1056, .invokestatic 122, 3)) mq_202 ci_202 (List.mem_append_right _ (List.mem_append_right _ (List.mem_append_right _ (List.mem_append_right _ (List.mem_append_right _ (List.mem_append_right _ (List.mem_append_right _ (List.mem_append_right _ (List.mem_append_right _ (List.mem_append_right _ (List.mem_append_right _ (List.mem_append_left _ (show _ ∈ my_202_11 from List.mem_of_getElem? (i := 6) rfl)))))))))))))
theorem cd_202_1059 : mt_cd 202 1059 = some (.istore 5) := mt_cd_of (q := (1059, .istore 5, 2)) mq_202 ci_202 (List.mem_append_right _ (List.mem_append_right _ (List.mem_append_right _ (List.mem_append_right _ (List.mem_append_right _ (List.mem_append_right _ (List.mem_append_right _ (List.mem_append_right _ (List.mem_append_right _ (List.mem_append_right _ (List.mem_append_right _ (List.mem_append_left _ (show _ ∈ my_202_11 from List.mem_of_getElem? (i := 7) rfl)))))))))))))
theorem cd_202_1061 : mt_cd 202 1061 = some (.aload_n 2) := mt_cd_of (q := (1061, .aload_n 2, 1)) mq_202 ci_202 (List.mem_append_right _ (List.mem_append_right _ (List.mem_append_right _ (List.mem_append_right _ (List.mem_append_right _ (List.mem_append_right _ (List.mem_append_right _ (List.mem_append_right _ (List.mem_append_right _ (List.mem_append_right _ (List.mem_append_right _ (List.mem_append_left _ (show _ ∈ my_202_11 from List.mem_of_getElem? (i := 8) rfl)))))))))))))
theorem cd_202_1062 : mt_cd 202 1062 = some (.aload_n 0) := mt_cd_of (q := (1062, .aload_n 0, 1)) mq_202 ci_202 (List.mem_append_right _ (List.mem_append_right _ (List.mem_append_right _ (List.mem_append_right _ (List.mem_append_right _ (List.mem_append_right _ (List.mem_append_right _ (List.mem_append_right _ (List.mem_append_right _ (List.mem_append_right _ (List.mem_append_right _ (List.mem_append_left _ (show _ ∈ my_202_11 from List.mem_of_getElem? (i := 9) rfl)))))))))))))
theorem cd_202_1063 : mt_cd 202 1063 = some (.iload 4) := mt_cd_of (q := (1063, .iload 4, 2)) mq_202 ci_202 (List.mem_append_right _ (List.mem_append_right _ (List.mem_append_right _ (List.mem_append_right _ (List.mem_append_right _ (List.mem_append_right _ (List.mem_append_right _ (List.mem_append_right _ (List.mem_append_right _ (List.mem_append_right _ (List.mem_append_right _ (List.mem_append_left _ (show _ ∈ my_202_11 from List.mem_of_getElem? (i := 10) rfl)))))))))))))
theorem cd_202_1065 : mt_cd 202 1065 = some (.iconst 1) := mt_cd_of (q := (1065, .iconst 1, 1)) mq_202 ci_202 (List.mem_append_right _ (List.mem_append_right _ (List.mem_append_right _ (List.mem_append_right _ (List.mem_append_right _ (List.mem_append_right _ (List.mem_append_right _ (List.mem_append_right _ (List.mem_append_right _ (List.mem_append_right _ (List.mem_append_right _ (List.mem_append_left _ (show _ ∈ my_202_11 from List.mem_of_getElem? (i := 11) rfl)))))))))))))
theorem cd_202_1066 : mt_cd 202 1066 = some (.iadd) := mt_cd_of (q := (1066, .iadd, 1)) mq_202 ci_202 (List.mem_append_right _ (List.mem_append_right _ (List.mem_append_right _ (List.mem_append_right _ (List.mem_append_right _ (List.mem_append_right _ (List.mem_append_right _ (List.mem_append_right _ (List.mem_append_right _ (List.mem_append_right _ (List.mem_append_right _ (List.mem_append_left _ (show _ ∈ my_202_11 from List.mem_of_getElem? (i := 12) rfl)))))))))))))
theorem cd_202_1067 : mt_cd 202 1067 = some (.iaload) := mt_cd_of (q := (1067, .iaload, 1)) mq_202 ci_202 (List.mem_append_right _ (List.mem_append_right _ (List.mem_append_right _ (List.mem_append_right _ (List.mem_append_right _ (List.mem_append_right _ (List.mem_append_right _ (List.mem_append_right _ (List.mem_append_right _ (List.mem_append_right _ (List.mem_append_right _ (List.mem_append_left _ (show _ ∈ my_202_11 from List.mem_of_getElem? (i := 13) rfl)))))))))))))
theorem cd_202_1068 : mt_cd 202 1068 = some (.aload_n 0) := mt_cd_of (q := (1068, .aload_n 0, 1)) mq_202 ci_202 (List.mem_append_right _ (List.mem_append_right _ (List.mem_append_right _ (List.mem_append_right _ (List.mem_append_right _ (List.mem_append_right _ (List.mem_append_right _ (List.mem_append_right _ (List.mem_append_right _ (List.mem_append_right _ (List.mem_append_right _ (List.mem_append_left _ (show _ ∈ my_202_11 from List.mem_of_getElem? (i := 14) rfl)))))))))))))
theorem cd_202_1069 : mt_cd 202 1069 = some (.iload 4) := mt_cd_of (q := (1069, .iload 4, 2)) mq_202 ci_202 (List.mem_append_right _ (List.mem_append_right _ (List.mem_append_right _ (List.mem_append_right _ (List.mem_append_right _ (List.mem_append_right _ (List.mem_append_right _ (List.mem_append_right _ (List.mem_append_right _ (List.mem_append_right _ (List.mem_append_right _ (List.mem_append_left _ (show _ ∈ my_202_11 from List.mem_of_getElem? (i := 15) rfl)))))))))))))
theorem cd_202_1071 : mt_cd 202 1071 = some (.iconst 2) := mt_cd_of (q := (1071, .iconst 2, 1)) mq_202 ci_202 (List.mem_append_right _ (List.mem_append_right _ (List.mem_append_right _ (List.mem_append_right _ (List.mem_append_right _ (List.mem_append_right _ (List.mem_append_right _ (List.mem_append_right _ (List.mem_append_right _ (List.mem_append_right _ (List.mem_append_right _ (List.mem_append_left _ (show _ ∈ my_202_11 from List.mem_of_getElem? (i := 16) rfl)))))))))))))
theorem cd_202_1072 : mt_cd 202 1072 = some (.iadd) := mt_cd_of (q := (1072, .iadd, 1)) mq_202 ci_202 (List.mem_append_right _ (List.mem_append_right _ (List.mem_append_right _ (List.mem_append_right _ (List.mem_append_right _ (List.mem_append_right _ (List.mem_append_right _ (List.mem_append_right _ (List.mem_append_right _ (List.mem_append_right _ (List.mem_append_right _ (List.mem_append_left _ (show _ ∈ my_202_11 from List.mem_of_getElem? (i := 17) rfl)))))))))))))
theorem cd_202_1073 : mt_cd 202 1073 = some (.iaload) := mt_cd_of (q := (1073, .iaload, 1)) mq_202 ci_202 (List.mem_append_right _ (List.mem_append_right _ (List.mem_append_right _ (List.mem_append_right _ (List.mem_append_right _ (List.mem_append_right _ (List.mem_append_right _ (List.mem_append_right _ (List.mem_append_right _ (List.mem_append_right _ (List.mem_append_right _ (List.mem_append_left _ (show _ ∈ my_202_11 from List.mem_of_getElem? (i := 18) rfl)))))))))))))
theorem cd_202_1074 : mt_cd 202 1074 = some (.invokevirtual 124) := mt_cd_of (q := (1074, .invokevirtual 124, 3)) mq_202 ci_202 (List.mem_append_right _ (List.mem_append_right _ (List.mem_append_right _ (List.mem_append_right _ (List.mem_append_right _ (List.mem_append_right _ (List.mem_append_right _ (List.mem_append_right _ (List.mem_append_right _ (List.mem_append_right _ (List.mem_append_right _ (List.mem_append_left _ (show _ ∈ my_202_11 from List.mem_of_getElem? (i := 19) rfl)))))))))))))
theorem cd_202_1077 : mt_cd 202 1077 = some (.lstore 6) := mt_cd_of (q := (1077, .lstore 6, 2)) mq_202 ci_202 (List.mem_append_right _ (List.mem_append_right _ (List.mem_append_right _ (List.mem_append_right _ (List.mem_append_right _ (List.mem_append_right _ (List.mem_append_right _ (List.mem_append_right _ (List.mem_append_right _ (List.mem_append_right _ (List.mem_append_right _ (List.mem_append_left _ (show _ ∈ my_202_11 from List.mem_of_getElem? (i := 20) rfl)))))))))))))
theorem cd_202_1079 : mt_cd 202 1079 = some (.aload_n 2) := mt_cd_of (q := (1079, .aload_n 2, 1)) mq_202 ci_202 (List.mem_append_right _ (List.mem_append_right _ (List.mem_append_right _ (List.mem_append_right _ (List.mem_append_right _ (List.mem_append_right _ (List.mem_append_right _ (List.mem_append_right _ (List.mem_append_right _ (List.mem_append_right _ (List.mem_append_right _ (List.mem_append_left _ (show _ ∈ my_202_11 from List.mem_of_getElem? (i := 21) rfl)))))))))))))
theorem cd_202_1080 : mt_cd 202 1080 = some (.invokevirtual 75) := mt_cd_of (q := (1080, .invokevirtual 75, 3)) mq_202 ci_202 (List.mem_append_right _ (List.mem_append_right _ (List.mem_append_right _ (List.mem_append_right _ (List.mem_append_right _ (List.mem_append_right _ (List.mem_append_right _ (List.mem_append_right _ (List.mem_append_right _ (List.mem_append_right _ (List.mem_append_right _ (List.mem_append_left _ (show _ ∈ my_202_11 from List.mem_of_getElem? (i := 22) rfl)))))))))))))
theorem cd_202_1083 : mt_cd 202 1083 = some (.iload 5) := mt_cd_of (q := (1083, .iload 5, 2)) mq_202 ci_202 (List.mem_append_right _ (List.mem_append_right _ (List.mem_append_right _ (List.mem_append_right _ (List.mem_append_right _ (List.mem_append_right _ (List.mem_append_right _ (List.mem_append_right _ (List.mem_append_right _ (List.mem_append_right _ (List.mem_append_right _ (List.mem_append_left _ (show _ ∈ my_202_11 from List.mem_of_getElem? (i := 23) rfl)))))))))))))
theorem cd_202_1085 : mt_cd 202 1085 = some (.if_icmp .eq 5) := mt_cd_of (q := (1085, .if_icmp .eq 5, 3)) mq_202 ci_202 (List.mem_append_right _ (List.mem_append_right _ (List.mem_append_right _ (List.mem_append_right _ (List.mem_append_right _ (List.mem_append_right _ (List.mem_append_right _ (List.mem_append_right _ (List.mem_append_right _ (List.mem_append_right _ (List.mem_append_right _ (List.mem_append_left _ (show _ ∈ my_202_11 from List.mem_of_getElem? (i := 24) rfl)))))))))))))
theorem cd_202_1088 : mt_cd 202 1088 = some (.iconst 0) := mt_cd_of (q := (1088, .iconst 0, 1)) mq_202 ci_202 (List.mem_append_right _ (List.mem_append_right _ (List.mem_append_right _ (List.mem_append_right _ (List.mem_append_right _ (List.mem_append_right _ (List.mem_append_right _ (List.mem_append_right _ (List.mem_append_right _ (List.mem_append_right _ (List.mem_append_right _ (List.mem_append_left _ (show _ ∈ my_202_11 from List.mem_of_getElem? (i := 25) rfl)))))))))))))
theorem cd_202_1089 : mt_cd 202 1089 = some (.ireturn) := mt_cd_of (q := (1089, .ireturn, 1)) mq_202 ci_202 (List.mem_append_right _ (List.mem_append_right _ (List.mem_append_right _ (List.mem_append_right _ (List.mem_append_right _ (List.mem_append_right _ (List.mem_append_right _ (List.mem_append_right _ (List.mem_append_right _ (List.mem_append_right _ (List.mem_append_right _ (List.mem_append_left _ (show _ ∈ my_202_11 from List.mem_of_getElem? (i := 26) rfl)))))))))))))
theorem cd_202_1090 : mt_cd 202 1090 = some (.iload 5) := mt_cd_of (q := (1090, .iload 5, 2)) mq_202 ci_202 (List.mem_append_right _ (List.mem_append_right _ (List.mem_append_right _ (List.mem_append_right _ (List.mem_append_right _ (List.mem_append_right _ (List.mem_append_right _ (List.mem_append_right _ (List.mem_append_right _ (List.mem_append_right _ (List.mem_append_right _ (List.mem_append_left _ (show _ ∈ my_202_11 from List.mem_of_getElem? (i := 27) rfl)))))))))))))
theorem cd_202_1092 : mt_cd 202 1092 = some (.ifCond .ne 14) := mt_cd_of (q := (1092, .ifCond .ne 14, 3)) mq_202 ci_202 (List.mem_append_right _ (List.mem_append_right _ (List.mem_append_right _ (List.mem_append_right _ (List.mem_append_right _ (List.mem_append_right _ (List.mem_append_right _ (List.mem_append_right _ (List.mem_append_right _ (List.mem_append_right _ (List.mem_append_right _ (List.mem_append_left _ (show _ ∈ my_202_11 from List.mem_of_getElem? (i := 28) rfl)))))))))))))
theorem cd_202_1095 : mt_cd 202 1095 = some (.aload_n 3) := mt_cd_of (q := (1095, .aload_n 3, 1)) mq_202 ci_202 (List.mem_append_right _ (List.mem_append_right _ (List.mem_append_right _ (List.mem_append_right _ (List.mem_append_right _ (List.mem_append_right _ (List.mem_append_right _ (List.mem_append_right _ (List.mem_append_right _ (List.mem_append_right _ (List.mem_append_right _ (List.mem_append_left _ (show _ ∈ my_202_11 from List.mem_of_getElem? (i := 29) rfl)))))))))))))
theorem cd_202_1096 : mt_cd 202 1096 = some (.iconst 0) := mt_cd_of (q := (1096, .iconst 0, 1)) mq_202 ci_202 (List.mem_append_right _ (List.mem_append_right _ (List.mem_append_right _ (List.mem_append_right _ (List.mem_append_right _ (List.mem_append_right _ (List.mem_append_right _ (List.mem_append_right _ (List.mem_append_right _ (List.mem_append_right _ (List.mem_append_right _ (List.mem_append_left _ (show _ ∈ my_202_11 from List.mem_of_getElem? (i := 30) rfl)))))))))))))
theorem cd_202_1097 : mt_cd 202 1097 = some (.laload) := mt_cd_of (q := (1097, .laload, 1)) mq_202 ci_202 (List.mem_append_right _ (List.mem_append_right _ (List.mem_append_right _ (List.mem_append_right _ (List.mem_append_right _ (List.mem_append_right _ (List.mem_append_right _ (List.mem_append_right _ (List.mem_append_right _ (List.mem_append_right _ (List.mem_append_right _ (List.mem_append_left _ (show _ ∈ my_202_11 from List.mem_of_getElem? (i := 31) rfl)))))))))))))
theorem cd_202_1098 : mt_cd 202 1098 = some (.lload 6) := mt_cd_of (q := (1098, .lload 6, 2)) mq_202 ci_202 (List.mem_append_right _ (List.mem_append_right _ (List.mem_append_right _ (List.mem_append_right _ (List.mem_append_right _ (List.mem_append_right _ (List.mem_append_right _ (List.mem_append_right _ (List.mem_append_right _ (List.mem_append_right _ (List.mem_append_right _ (List.mem_append_left _ (show _ ∈ my_202_11 from List.mem_of_getElem? (i := 32) rfl)))))))))))))
theorem cd_202_1100 : mt_cd 202 1100 = some (.lcmp) := mt_cd_of (q := (1100, .lcmp, 1)) mq_202 ci_202 (List.mem_append_right _ (List.mem_append_right _ (List.mem_append_right _ (List.mem_append_right _ (List.mem_append_right _ (List.mem_append_right _ (List.mem_append_right _ (List.mem_append_right _ (List.mem_append_right _ (List.mem_append_right _ (List.mem_append_right _ (List.mem_append_left _ (show _ ∈ my_202_11 from List.mem_of_getElem? (i := 33) rfl)))))))))))))
theorem cd_202_1101 : mt_cd 202 1101 = some (.ifCond .eq 5) := mt_cd_of (q := (1101, .ifCond .eq 5, 3)) mq_202 ci_202 (List.mem_append_right _ (List.mem_append_right _ (List.mem_append_right _ (List.mem_append_right _ (List.mem_append_right _ (List.mem_append_right _ (List.mem_append_right _ (List.mem_append_right _ (List.mem_append_right _ (List.mem_append_right _ (List.mem_append_right _ (List.mem_append_left _ (show _ ∈ my_202_11 from List.mem_of_getElem? (i := 34) rfl)))))))))))))
theorem cd_202_1104 : mt_cd 202 1104 = some (.iconst 0) := mt_cd_of (q := (1104, .iconst 0, 1)) mq_202 ci_202 (List.mem_append_right _ (List.mem_append_right _ (List.mem_append_right _ (List.mem_append_right _ (List.mem_append_right _ (List.mem_append_right _ (List.mem_append_right _ (List.mem_append_right _ (List.mem_append_right _ (List.mem_append_right _ (List.mem_append_right _ (List.mem_append_left _ (show _ ∈ my_202_11 from List.mem_of_getElem? (i := 35) rfl)))))))))))))
theorem cd_202_1105 : mt_cd 202 1105 = some (.ireturn) := mt_cd_of (q := (1105, .ireturn, 1)) mq_202 ci_202 (List.mem_append_right _ (List.mem_append_right _ (List.mem_append_right _ (List.mem_append_right _ (List.mem_append_right _ (List.mem_append_right _ (List.mem_append_right _ (List.mem_append_right _ (List.mem_append_right _ (List.mem_append_right _ (List.mem_append_right _ (List.mem_append_left _ (show _ ∈ my_202_11 from List.mem_of_getElem? (i := 36) rfl)))))))))))))
theorem cd_202_1106 : mt_cd 202 1106 = some (.goto 59) := mt_cd_of (q := (1106, .goto 59, 3)) mq_202 ci_202 (List.mem_append_right _ (List.mem_append_right _ (List.mem_append_right _ (List.mem_append_right _ (List.mem_append_right _ (List.mem_append_right _ (List.mem_append_right _ (List.mem_append_right _ (List.mem_append_right _ (List.mem_append_right _ (List.mem_append_right _ (List.mem_append_left _ (show _ ∈ my_202_11 from List.mem_of_getElem? (i := 37) rfl)))))))))))))
theorem cd_202_1109 : mt_cd 202 1109 = some (.aload_n 1) := mt_cd_of (q := (1109, .aload_n 1, 1)) mq_202 ci_202 (List.mem_append_right _ (List.mem_append_right _ (List.mem_append_right _ (List.mem_append_right _ (List.mem_append_right _ (List.mem_append_right _ (List.mem_append_right _ (List.mem_append_right _ (List.mem_append_right _ (List.mem_append_right _ (List.mem_append_right _ (List.mem_append_left _ (show _ ∈ my_202_11 from List.mem_of_getElem? (i := 38) rfl)))))))))))))
theorem cd_202_1110 : mt_cd 202 1110 = some (.aload_n 0) := mt_cd_of (q := (1110, .aload_n 0, 1)) mq_202 ci_202 (List.mem_append_right _ (List.mem_append_right _ (List.mem_append_right _ (List.mem_append_right _ (List.mem_append_right _ (List.mem_append_right _ (List.mem_append_right _ (List.mem_append_right _ (List.mem_append_right _ (List.mem_append_right _ (List.mem_append_right _ (List.mem_append_left _ (show _ ∈ my_202_11 from List.mem_of_getElem? (i := 39) rfl)))))))))))))
theorem cd_202_1111 : mt_cd 202 1111 = some (.iload 4) := mt_cd_of (q := (1111, .iload 4, 2)) mq_202 ci_202 (List.mem_append_right _ (List.mem_append_right _ (List.mem_append_right _ (List.mem_append_right _ (List.mem_append_right _ (List.mem_append_right _ (List.mem_append_right _ (List.mem_append_right _ (List.mem_append_right _ (List.mem_append_right _ (List.mem_append_right _ (List.mem_append_left _ (show _ ∈ my_202_11 from List.mem_of_getElem? (i := 40) rfl)))))))))))))
theorem cd_202_1113 : mt_cd 202 1113 = some (.iconst 1) := mt_cd_of (q := (1113, .iconst 1, 1)) mq_202 ci_202 (List.mem_append_right _ (List.mem_append_right _ (List.mem_append_right _ (List.mem_append_right _ (List.mem_append_right _ (List.mem_append_right _ (List.mem_append_right _ (List.mem_append_right _ (List.mem_append_right _ (List.mem_append_right _ (List.mem_append_right _ (List.mem_append_left _ (show _ ∈ my_202_11 from List.mem_of_getElem? (i := 41) rfl)))))))))))))
theorem cd_202_1114 : mt_cd 202 1114 = some (.iadd) := mt_cd_of (q := (1114, .iadd, 1)) mq_202 ci_202 (List.mem_append_right _ (List.mem_append_right _ (List.mem_append_right _ (List.mem_append_right _ (List.mem_append_right _ (List.mem_append_right _ (List.mem_append_right _ (List.mem_append_right _ (List.mem_append_right _ (List.mem_append_right _ (List.mem_append_right _ (List.mem_append_left _ (show _ ∈ my_202_11 from List.mem_of_getElem? (i := 42) rfl)))))))))))))
theorem cd_202_1115 : mt_cd 202 1115 = some (.iaload) := mt_cd_of (q := (1115, .iaload, 1)) mq_202 ci_202 (List.mem_append_right _ (List.mem_append_right _ (List.mem_append_right _ (List.mem_append_right _ (List.mem_append_right _ (List.mem_append_right _ (List.mem_append_right _ (List.mem_append_right _ (List.mem_append_right _ (List.mem_append_right _ (List.mem_append_right _ (List.mem_append_left _ (show _ ∈ my_202_11 from List.mem_of_getElem? (i := 43) rfl)))))))))))))
theorem cd_202_1116 : mt_cd 202 1116 = some (.aload_n 3) := mt_cd_of (q := (1116, .aload_n 3, 1)) mq_202 ci_202 (List.mem_append_right _ (List.mem_append_right _ (List.mem_append_right _ (List.mem_append_right _ (List.mem_append_right _ (List.mem_append_right _ (List.mem_append_right _ (List.mem_append_right _ (List.mem_append_right _ (List.mem_append_right _ (List.mem_append_right _ (List.mem_append_left _ (show _ ∈ my_202_11 from List.mem_of_getElem? (i := 44) rfl)))))))))))))
theorem cd_202_1117 : mt_cd 202 1117 = some (.invokestatic 125) := mt_cd_of (q := (1117, .invokestatic 125, 3)) mq_202 ci_202 (List.mem_append_right _ (List.mem_append_right _ (List.mem_append_right _ (List.mem_append_right _ (List.mem_append_right _ (List.mem_append_right _ (List.mem_append_right _ (List.mem_append_right _ (List.mem_append_right _ (List.mem_append_right _ (List.mem_append_right _ (List.mem_append_left _ (show _ ∈ my_202_11 from List.mem_of_getElem? (i := 45) rfl)))))))))))))
theorem cd_202_1120 : mt_cd 202 1120 = some (.istore 5) := mt_cd_of (q := (1120, .istore 5, 2)) mq_202 ci_202 (List.mem_append_right _ (List.mem_append_right _ (List.mem_append_right _ (List.mem_append_right _ (List.mem_append_right _ (List.mem_append_right _ (List.mem_append_right _ (List.mem_append_right _ (List.mem_append_right _ (List.mem_append_right _ (List.mem_append_right _ (List.mem_append_left _ (show _ ∈ my_202_11 from List.mem_of_getElem? (i := 46) rfl)))))))))))))
theorem cd_202_1122 : mt_cd 202 1122 = some (.aload_n 2) := mt_cd_of (q := (1122, .aload_n 2, 1)) mq_202 ci_202 (List.mem_append_right _ (List.mem_append_right _ (List.mem_append_right _ (List.mem_append_right _ (List.mem_append_right _ (List.mem_append_right _ (List.mem_append_right _ (List.mem_append_right _ (List.mem_append_right _ (List.mem_append_right _ (List.mem_append_right _ (List.mem_append_left _ (show _ ∈ my_202_11 from List.mem_of_getElem? (i := 47) rfl)))))))))))))
theorem cd_202_1123 : mt_cd 202 1123 = some (.aload_n 0) := mt_cd_of (q := (1123, .aload_n 0, 1)) mq_202 ci_202 (List.mem_append_right _ (List.mem_append_right _ (List.mem_append_right _ (List.mem_append_right _ (List.mem_append_right _ (List.mem_append_right _ (List.mem_append_right _ (List.mem_append_right _ (List.mem_append_right _ (List.mem_append_right _ (List.mem_append_right _ (List.mem_append_left _ (show _ ∈ my_202_11 from List.mem_of_getElem? (i := 48) rfl)))))))))))))
theorem cd_202_1124 : mt_cd 202 1124 = some (.iload 4) := mt_cd_of (q := (1124, .iload 4, 2)) mq_202 ci_202 (List.mem_append_right _ (List.mem_append_right _ (List.mem_append_right _ (List.mem_append_right _ (List.mem_append_right _ (List.mem_append_right _ (List.mem_append_right _ (List.mem_append_right _ (List.mem_append_right _ (List.mem_append_right _ (List.mem_append_right _ (List.mem_append_left _ (show _ ∈ my_202_11 from List.mem_of_getElem? (i := 49) rfl)))))))))))))
theorem cd_202_1126 : mt_cd 202 1126 = some (.iconst 1) := mt_cd_of (q := (1126, .iconst 1, 1)) mq_202 ci_202 (List.mem_append_right _ (List.mem_append_right _ (List.mem_append_right _ (List.mem_append_right _ (List.mem_append_right _ (List.mem_append_right _ (List.mem_append_right _ (List.mem_append_right _ (List.mem_append_right _ (List.mem_append_right _ (List.mem_append_right _ (List.mem_append_left _ (show _ ∈ my_202_11 from List.mem_of_getElem? (i := 50) rfl)))))))))))))
theorem cd_202_1127 : mt_cd 202 1127 = some (.iadd) := mt_cd_of (q := (1127, .iadd, 1)) mq_202 ci_202 (List.mem_append_right _ (List.mem_append_right _ (List.mem_append_right _ (List.mem_append_right _ (List.mem_append_right _ (List.mem_append_right _ (List.mem_append_right _ (List.mem_append_right _ (List.mem_append_right _ (List.mem_append_right _ (List.mem_append_right _ (List.mem_append_left _ (show _ ∈ my_202_11 from List.mem_of_getElem? (i := 51) rfl)))))))))))))
theorem cd_202_1128 : mt_cd 202 1128 = some (.iaload) := mt_cd_of (q := (1128, .iaload, 1)) mq_202 ci_202 (List.mem_append_right _ (List.mem_append_right _ (List.mem_append_right _ (List.mem_append_right _ (List.mem_append_right _ (List.mem_append_right _ (List.mem_append_right _ (List.mem_append_right _ (List.mem_append_right _ (List.mem_append_right _ (List.mem_append_right _ (List.mem_append_left _ (show _ ∈ my_202_11 from List.mem_of_getElem? (i := 52) rfl)))))))))))))
theorem cd_202_1129 : mt_cd 202 1129 = some (.invokevirtual 127) := mt_cd_of (q := (1129, .invokevirtual 127, 3)) mq_202 ci_202 (List.mem_append_right _ (List.mem_append_right _ (List.mem_append_right _ (List.mem_append_right _ (List.mem_append_right _ (List.mem_append_right _ (List.mem_append_right _ (List.mem_append_right _ (List.mem_append_right _ (List.mem_append_right _ (List.mem_append_right _ (List.mem_append_left _ (show _ ∈ my_202_11 from List.mem_of_getElem? (i := 53) rfl)))))))))))))
theorem cd_202_1132 : mt_cd 202 1132 = some (.istore 6) := mt_cd_of (q := (1132, .istore 6, 2)) mq_202 ci_202 (List.mem_append_right _ (List.mem_append_right _ (List.mem_append_right _ (List.mem_append_right _ (List.mem_append_right _ (List.mem_append_right _ (List.mem_append_right _ (List.mem_append_right _ (List.mem_append_right _ (List.mem_append_right _ (List.mem_append_right _ (List.mem_append_left _ (show _ ∈ my_202_11 from List.mem_of_getElem? (i := 54) rfl)))))))))))))
theorem cd_202_1134 : mt_cd 202 1134 = some (.aload_n 2) := mt_cd_of (q := (1134, .aload_n 2, 1)) mq_202 ci_202 (List.mem_append_right _ (List.mem_append_right _ (List.mem_append_right _ (List.mem_append_right _ (List.mem_append_right _ (List.mem_append_right _ (List.mem_append_right _ (List.mem_append_right _ (List.mem_append_right _ (List.mem_append_right _ (List.mem_append_right _ (List.mem_append_left _ (show _ ∈ my_202_11 from List.mem_of_getElem? (i := 55) rfl)))))))))))))
theorem cd_202_1135 : mt_cd 202 1135 = some (.invokevirtual 75) := mt_cd_of (q := (1135, .invokevirtual 75, 3)) mq_202 ci_202 (List.mem_append_right _ (List.mem_append_right _ (List.mem_append_right _ (List.mem_append_right _ (List.mem_append_right _ (List.mem_append_right _ (List.mem_append_right _ (List.mem_append_right _ (List.mem_append_right _ (List.mem_append_right _ (List.mem_append_right _ (List.mem_append_left _ (show _ ∈ my_202_11 from List.mem_of_getElem? (i := 56) rfl)))))))))))))
theorem cd_202_1138 : mt_cd 202 1138 = some (.iload 5) := mt_cd_of (q := (1138, .iload 5, 2)) mq_202 ci_202 (List.mem_append_right _ (List.mem_append_right _ (List.mem_append_right _ (List.mem_append_right _ (List.mem_append_right _ (List.mem_append_right _ (List.mem_append_right _ (List.mem_append_right _ (List.mem_append_right _ (List.mem_append_right _ (List.mem_append_right _ (List.mem_append_left _ (show _ ∈ my_202_11 from List.mem_of_getElem? (i := 57) rfl)))))))))))))
theorem cd_202_1140 : mt_cd 202 1140 = some (.if_icmp .eq 5) := mt_cd_of (q := (1140, .if_icmp .eq 5, 3)) mq_202 ci_202 (List.mem_append_right _ (List.mem_append_right _ (List.mem_append_right _ (List.mem_append_right _ (List.mem_append_right _ (List.mem_append_right _ (List.mem_append_right _ (List.mem_append_right _ (List.mem_append_right _ (List.mem_append_right _ (List.mem_append_right _ (List.mem_append_left _ (show _ ∈ my_202_11 from List.mem_of_getElem? (i := 58) rfl)))))))))))))
theorem cd_202_1143 : mt_cd 202 1143 = some (.iconst 0) := mt_cd_of (q := (1143, .iconst 0, 1)) mq_202 ci_202 (List.mem_append_right _ (List.mem_append_right _ (List.mem_append_right _ (List.mem_append_right _ (List.mem_append_right _ (List.mem_append_right _ (List.mem_append_right _ (List.mem_append_right _ (List.mem_append_right _ (List.mem_append_right _ (List.mem_append_right _ (List.mem_append_left _ (show _ ∈ my_202_11 from List.mem_of_getElem? (i := 59) rfl)))))))))))))
theorem cd_202_1144 : mt_cd 202 1144 = some (.ireturn) := mt_cd_of (q := (1144, .ireturn, 1)) mq_202 ci_202 (List.mem_append_right _ (List.mem_append_right _ (List.mem_append_right _ (List.mem_append_right _ (List.mem_append_right _ (List.mem_append_right _ (List.mem_append_right _ (List.mem_append_right _ (List.mem_append_right _ (List.mem_append_right _ (List.mem_append_right _ (List.mem_append_right _ ((show _ ∈ my_202_12 from List.mem_of_getElem? (i := 0) rfl))))))))))))))
theorem cd_202_1145 : mt_cd 202 1145 = some (.iload 5) := mt_cd_of (q := (1145, .iload 5, 2)) mq_202 ci_202 (List.mem_append_right _ (List.mem_append_right _ (List.mem_append_right _ (List.mem_append_right _ (List.mem_append_right _ (List.mem_append_right _ (List.mem_append_right _ (List.mem_append_right _ (List.mem_append_right _ (List.mem_append_right _ (List.mem_append_right _ (List.mem_append_right _ ((show _ ∈ my_202_12 from List.mem_of_getElem? (i := 1) rfl))))))))))))))
theorem cd_202_1147 : mt_cd 202 1147 = some (.ifCond .ne 15) := mt_cd_of (q := (1147, .ifCond .ne 15, 3)) mq_202 ci_202 (List.mem_append_right _ (List.mem_append_right _ (List.mem_append_right _ (List.mem_append_right _ (List.mem_append_right _ (List.mem_append_right _ (List.mem_append_right _ (List.mem_append_right _ (List.mem_append_right _ (List.mem_append_right _ (List.mem_append_right _ (List.mem_append_right _ ((show _ ∈ my_202_12 from List.mem_of_getElem? (i := 2) rfl))))))))))))))
theorem cd_202_1150 : mt_cd 202 1150 = some (.aload_n 3) := mt_cd_of (q := (1150, .aload_n 3, 1)) mq_202 ci_202 (List.mem_append_right _ (List.mem_append_right _ (List.mem_append_right _ (List.mem_append_right _ (List.mem_append_right _ (List.mem_append_right _ (List.mem_append_right _ (List.mem_append_right _ (List.mem_append_right _ (List.mem_append_right _ (List.mem_append_right _ (List.mem_append_right _ ((show _ ∈ my_202_12 from List.mem_of_getElem? (i := 3) rfl))))))))))))))
theorem cd_202_1151 : mt_cd 202 1151 = some (.iconst 0) := mt_cd_of (q := (1151, .iconst 0, 1)) mq_202 ci_202 (List.mem_append_right _ (List.mem_append_right _ (List.mem_append_right _ (List.mem_append_right _ (List.mem_append_right _ (List.mem_append_right _ (List.mem_append_right _ (List.mem_append_right _ (List.mem_append_right _ (List.mem_append_right _ (List.mem_append_right _ (List.mem_append_right _ ((show _ ∈ my_202_12 from List.mem_of_getElem? (i := 4) rfl))))))))))))))
theorem cd_202_1152 : mt_cd 202 1152 = some (.laload) := mt_cd_of (q := (1152, .laload, 1)) mq_202 ci_202 (List.mem_append_right _ (List.mem_append_right _ (List.mem_append_right _ (List.mem_append_right _ (List.mem_append_right _ (List.mem_append_right _ (List.mem_append_right _ (List.mem_append_right _ (List.mem_append_right _ (List.mem_append_right _ (List.mem_append_right _ (List.mem_append_right _ ((show _ ∈ my_202_12 from List.mem_of_getElem? (i := 5) rfl))))))))))))))
theorem cd_202_1153 : mt_cd 202 1153 = some (.iload 6) := mt_cd_of (q := (1153, .iload 6, 2)) mq_202 ci_202 (List.mem_append_right _ (List.mem_append_right _ (List.mem_append_right _ (List.mem_append_right _ (List.mem_append_right _ (List.mem_append_right _ (List.mem_append_right _ (List.mem_append_right _ (List.mem_append_right _ (List.mem_append_right _ (List.mem_append_right _ (List.mem_append_right _ ((show _ ∈ my_202_12 from List.mem_of_getElem? (i := 6) rfl))))))))))))))
theorem cd_202_1155 : mt_cd 202 1155 = some (.i2l) := mt_cd_of (q := (1155, .i2l, 1)) mq_202 ci_202 (List.mem_append_right _ (List.mem_append_right _ (List.mem_append_right _ (List.mem_append_right _ (List.mem_append_right _ (List.mem_append_right _ (List.mem_append_right _ (List.mem_append_right _ (List.mem_append_right _ (List.mem_append_right _ (List.mem_append_right _ (List.mem_append_right _ ((show _ ∈ my_202_12 from List.mem_of_getElem? (i := 7) rfl))))))))))))))
theorem cd_202_1156 : mt_cd 202 1156 = some (.lcmp) := mt_cd_of (q := (1156, .lcmp, 1)) mq_202 ci_202 (List.mem_append_right _ (List.mem_append_right _ (List.mem_append_right _ (List.mem_append_right _ (List.mem_append_right _ (List.mem_append_right _ (List.mem_append_right _ (List.mem_append_right _ (List.mem_append_right _ (List.mem_append_right _ (List.mem_append_right _ (List.mem_append_right _ ((show _ ∈ my_202_12 from List.mem_of_getElem? (i := 8) rfl))))))))))))))
theorem cd_202_1157 : mt_cd 202 1157 = some (.ifCond .eq 5) := mt_cd_of (q := (1157, .ifCond .eq 5, 3)) mq_202 ci_202 (List.mem_append_right _ (List.mem_append_right _ (List.mem_append_right _ (List.mem_append_right _ (List.mem_append_right _ (List.mem_append_right _ (List.mem_append_right _ (List.mem_append_right _ (List.mem_append_right _ (List.mem_append_right _ (List.mem_append_right _ (List.mem_append_right _ ((show _ ∈ my_202_12 from List.mem_of_getElem? (i := 9) rfl))))))))))))))
theorem cd_202_1160 : mt_cd 202 1160 = some (.iconst 0) := mt_cd_of (q := (1160, .iconst 0, 1)) mq_202 ci_202 (List.mem_append_right _ (List.mem_append_right _ (List.mem_append_right _ (List.mem_append_right _ (List.mem_append_right _ (List.mem_append_right _ (List.mem_append_right _ (List.mem_append_right _ (List.mem_append_right _ (List.mem_append_right _ (List.mem_append_right _ (List.mem_append_right _ ((show _ ∈ my_202_12 from List.mem_of_getElem? (i := 10) rfl))))))))))))))
theorem cd_202_1161 : mt_cd 202 1161 = some (.ireturn) := mt_cd_of (q := (1161, .ireturn, 1)) mq_202 ci_202 (List.mem_append_right _ (List.mem_append_right _ (List.mem_append_right _ (List.mem_append_right _ (List.mem_append_right _ (List.mem_append_right _ (List.mem_append_right _ (List.mem_append_right _ (List.mem_append_right _ (List.mem_append_right _ (List.mem_append_right _ (List.mem_append_right _ ((show _ ∈ my_202_12 from List.mem_of_getElem? (i := 11) rfl))))))))))))))
theorem cd_202_1162 : mt_cd 202 1162 = some (.goto 3) := mt_cd_of (q := (1162, .goto 3, 3)) mq_202 ci_202 (List.mem_append_right _ (List.mem_append_right _ (List.mem_append_right _ (List.mem_append_right _ (List.mem_append_right _ (List.mem_append_right _ (List.mem_append_right _ (List.mem_append_right _ (List.mem_append_right _ (List.mem_append_right _ (List.mem_append_right _ (List.mem_append_right _ ((show _ ∈ my_202_12 from List.mem_of_getElem? (i := 12) rfl))))))))))))))
theorem cd_202_1165 : mt_cd 202 1165 = some (.iinc 4 6) := mt_cd_of (q := (1165, .iinc 4 6, 3)) mq_202 ci_202 (List.mem_append_right _ (List.mem_append_right _ (List.mem_append_right _ (List.mem_append_right _ (List.mem_append_right _ (List.mem_append_right _ (List.mem_append_right _ (List.mem_append_right _ (List.mem_append_right _ (List.mem_append_right _ (List.mem_append_right _ (List.mem_append_right _ ((show _ ∈ my_202_12 from List.mem_of_getElem? (i := 13) rfl))))))))))))))
theorem cd_202_1168 : mt_cd 202 1168 = some (.goto (-1145)) := mt_cd_of (q := (1168, .goto (-1145), 3)) mq_202 ci_202 (List.mem_append_right _ (List.mem_append_right _ (List.mem_append_right _ (List.mem_append_right _ (List.mem_append_right _ (List.mem_append_right _ (List.mem_append_right _ (List.mem_append_right _ (List.mem_append_right _ (List.mem_append_right _ (List.mem_append_right _ (List.mem_append_right _ ((show _ ∈ my_202_12 from List.mem_of_getElem? (i := 14) rfl))))))))))))))
theorem cd_202_1171 : mt_cd 202 1171 = some (.iconst 1) := mt_cd_of (q := (1171, .iconst 1, 1)) mq_202 ci_202 (List.mem_append_right _ (List.mem_append_right _ (List.mem_append_right _ (List.mem_append_right _ (List.mem_append_right _ (List.mem_append_right _ (List.mem_append_right _ (List.mem_append_right _ (List.mem_append_right _ (List.mem_append_right _ (List.mem_append_right _ (List.mem_append_right _ ((show _ ∈ my_202_12 from List.mem_of_getElem? (i := 15) rfl))))))))))))))
theorem cd_202_1172 : mt_cd 202 1172 = some (.ireturn) := mt_cd_of (q := (1172, .ireturn, 1)) mq_202 ci_202 (List.mem_append_right _ (List.mem_append_right _ (List.mem_append_right _ (List.mem_append_right _ (List.mem_append_right _ (List.mem_append_right _ (List.mem_append_right _ (List.mem_append_right _ (List.mem_append_right _ (List.mem_append_right _ (List.mem_append_right _ (List.mem_append_right _ ((show _ ∈ my_202_12 from List.mem_of_getElem? (i := 16) rfl))))))))))))))
theorem b_202_0 {d : Nat} {Q : (Option Value ⊕ Nat) → mi_H → Prop} (n sl : Nat) (f : Nat → mi_C) {l1 : Nat} {o2 : Option Value} {o3 : Option Value} {o4 : Option Value} {o5 : Option Value} {o6 : Option Value} {o7 : Option Value} {o8 : Option Value} (h9 : n + 1 ≤ mi_NC ∧ sl + 10 ≤ mi_NS) (h10 : n < (n + 1)) (h11 : mi_W d 0 0 (mi_en 1 [.ref n]) [] ((n + 1), (sl + 10), (va_up f n (.inr (0, mt_df 0)))) (mi_Kc d 202 4 [some (.ref l1), o2, o3, o4, o5, o6, o7, o8] [.ref n] Q)) : mi_W (d + 1) 202 0 [some (.ref l1), o2, o3, o4, o5, o6, o7, o8] [] (n, sl, f) Q := by
  refine w_new cd_202_0 (show mt_c 18 8 = some 0 by decide +kernel) (by decide) h9 ?_
  refine w_dup_r cd_202_3 ?_
  exact w_invokespecial cd_202_4 (show mt_m 18 65 = some (0, 2) by decide +kernel) (Or.inl rfl) (by decide) (rest := [.ref n]) rfl (as := [.ref n]) rfl h10 ⟨Nat.le_of_ble_eq_true rfl, Nat.le_of_ble_eq_true rfl, Nat.le_of_ble_eq_true rfl⟩ h11
theorem b_202_7 {d : Nat} {Q : (Option Value ⊕ Nat) → mi_H → Prop} (n sl : Nat) (f : Nat → mi_C) {l1 : Nat} {o2 : Option Value} {o3 : Option Value} {o4 : Option Value} {o5 : Option Value} {o6 : Option Value} {o7 : Option Value} {o8 : Option Value} {s9 : Nat} (h10 : n + 1 ≤ mi_NC ∧ sl + 88 ≤ mi_NS) (h11 : n < (n + 1)) (h12 : mi_W d 134 0 (mi_en 1 [.ref n]) [] ((n + 1), (sl + 88), (va_up f n (.inr (12, mt_df 12)))) (mi_Kc d 202 12 [some (.ref l1), some (.ref s9), o3, o4, o5, o6, o7, o8] [.ref n] Q)) : mi_W (d + 1) 202 7 [some (.ref l1), o2, o3, o4, o5, o6, o7, o8] [.ref s9] (n, sl, f) Q := by
  refine w_astore_n (ls' := [some (.ref l1), some (.ref s9), o3, o4, o5, o6, o7, o8]) cd_202_7 (Nat.le_of_ble_eq_true rfl) rfl ?_
  refine w_new cd_202_8 (show mt_c 18 66 = some 12 by decide +kernel) (by decide) h10 ?_
  refine w_dup_r cd_202_11 ?_
  exact w_invokespecial cd_202_12 (show mt_m 18 68 = some (134, 2) by decide +kernel) (Or.inl rfl) (by decide) (rest := [.ref n]) rfl (as := [.ref n]) rfl h11 ⟨Nat.le_of_ble_eq_true rfl, Nat.le_of_ble_eq_true rfl, Nat.le_of_ble_eq_true rfl⟩ h12
theorem b_202_15 {d : Nat} {Q : (Option Value ⊕ Nat) → mi_H → Prop} (n sl : Nat) (f : Nat → mi_C) {l1 : Nat} {l2 : Nat} {o3 : Option Value} {o4 : Option Value} {o5 : Option Value} {o6 : Option Value} {o7 : Option Value} {o8 : Option Value} {s9 : Nat} {m10 : Nat} (h11 : ¬ 1 < (0 : Int32) ∧ Int32.toNatClampNeg 1 = m10 ∧ m10 ≤ 1000000) (h12 : n + 1 ≤ mi_NC ∧ sl + m10 ≤ mi_NS) (h13 : mi_W d 202 23 [some (.ref l1), some (.ref l2), some (.ref s9), some (.ref n), some (.int 0), o6, o7, o8] [] ((n + 1), (sl + m10), (va_up f n (.inl (3, m10, .inr (.inl (fun _ => 0)))))) Q) : mi_W d 202 15 [some (.ref l1), some (.ref l2), o3, o4, o5, o6, o7, o8] [.ref s9] (n, sl, f) Q := by
  refine w_astore_n (ls' := [some (.ref l1), some (.ref l2), some (.ref s9), o4, o5, o6, o7, o8]) cd_202_15 (Nat.le_of_ble_eq_true rfl) rfl ?_
  refine w_iconst (v := 1) cd_202_16 (by decide) ?_
  refine w_newarray cd_202_17 rfl h11 h12 ?_
  refine w_astore_n (ls' := [some (.ref l1), some (.ref l2), some (.ref s9), some (.ref n), o5, o6, o7, o8]) cd_202_19 (Nat.le_of_ble_eq_true rfl) rfl ?_
  refine w_iconst (v := 0) cd_202_20 (by decide) ?_
  refine w_istore (ls' := [some (.ref l1), some (.ref l2), some (.ref s9), some (.ref n), some (.int 0), o6, o7, o8]) cd_202_21 (Nat.le_of_ble_eq_true rfl) rfl ?_
  exact h13
theorem b_202_23 {d : Nat} {Q : (Option Value ⊕ Nat) → mi_H → Prop} (n sl : Nat) (f : Nat → mi_C) {l1 : Nat} {l2 : Nat} {l3 : Nat} {l4 : Nat} {l5 : Int32} {o6 : Option Value} {o7 : Option Value} {o8 : Option Value} (m9 ka9 : Nat) (g9 : (Nat → Int32) ⊕ (Nat → Int64) ⊕ (Nat → UInt32) ⊕ (Nat → UInt64) ⊕ (Nat → Option Nat)) (h10 : f l1 = .inl (ka9, m9, g9)) (h11 : l1 < n ∧ ka9 < mt_na) (h12 : ((Int32.ofNat m9) - 6) < l5 → mi_W d 202 1171 [some (.ref l1), some (.ref l2), some (.ref l3), some (.ref l4), some (.int l5), o6, o7, o8] [] (n, sl, f) Q) (h13 : ¬ (((Int32.ofNat m9) - 6) < l5) → mi_W d 202 33 [some (.ref l1), some (.ref l2), some (.ref l3), some (.ref l4), some (.int l5), o6, o7, o8] [] (n, sl, f) Q) : mi_W d 202 23 [some (.ref l1), some (.ref l2), some (.ref l3), some (.ref l4), some (.int l5), o6, o7, o8] [] (n, sl, f) Q := by
  refine w_iload cd_202_23 rfl ?_
  refine w_aload_n cd_202_25 rfl ?_
  refine w_arraylength cd_202_26 h10 h11 ?_
  refine w_bipush (v := 6) cd_202_27 (by decide) ?_
  refine w_isub cd_202_29 ?_
  exact w_if_icmpgt cd_202_30 (by decide) h12 h13
theorem b_202_33 {d : Nat} {Q : (Option Value ⊕ Nat) → mi_H → Prop} (n sl : Nat) (f : Nat → mi_C) {l1 : Nat} {l2 : Nat} {l3 : Nat} {l4 : Nat} {l5 : Int32} {o6 : Option Value} {o7 : Option Value} {o8 : Option Value} (m9 i9 : Nat) (g9 : Nat → Int32) {t13 : Nat} (h10 : f l1 = .inl (0, m9, .inl g9)) (h11 : l1 < n ∨ l1 = mi_SC) (h12 : mi_ix l5 m9 i9) (h14 : mi_ts 40 1125 0 13 #[72, 176, 232, 245, 356, 480, 580, 624, 756, 824, 879, 958, 1002, 1069] (((g9 i9) &&& 15) : Int32).toInt = some t13) (h15 : mi_W d 202 t13 [some (.ref l1), some (.ref l2), some (.ref l3), some (.ref l4), some (.int l5), o6, o7, o8] [] (n, sl, f) Q) : mi_W d 202 33 [some (.ref l1), some (.ref l2), some (.ref l3), some (.ref l4), some (.int l5), o6, o7, o8] [] (n, sl, f) Q := by
  refine w_aload_n cd_202_33 rfl ?_
  refine w_iload cd_202_34 rfl ?_
  refine w_iaload cd_202_36 h10 h11 h12 ?_
  refine w_bipush (v := 15) cd_202_37 (by decide) ?_
  refine w_iand cd_202_39 ?_
  exact w_tableswitch cd_202_40 h14 h15
theorem b_202_112 {d : Nat} {Q : (Option Value ⊕ Nat) → mi_H → Prop} (n sl : Nat) (f : Nat → mi_C) {l1 : Nat} {l2 : Nat} {l3 : Nat} {l4 : Nat} {l5 : Int32} {o6 : Option Value} {o7 : Option Value} {o8 : Option Value} (m9 i9 : Nat) (g9 : Nat → Int32) (m13 i13 : Nat) (g13 : Nat → Int32) (m17 i17 : Nat) (g17 : Nat → Int32) (m21 i21 : Nat) (g21 : Nat → Int32) (m25 i25 : Nat) (g25 : Nat → Int32) (h10 : f l1 = .inl (0, m9, .inl g9)) (h11 : l1 < n ∨ l1 = mi_SC) (h12 : mi_ix (l5 + 1) m9 i9) (h14 : f l1 = .inl (0, m13, .inl g13)) (h15 : l1 < n ∨ l1 = mi_SC) (h16 : mi_ix (l5 + 2) m13 i13) (h18 : f l1 = .inl (0, m17, .inl g17)) (h19 : l1 < n ∨ l1 = mi_SC) (h20 : mi_ix (l5 + 3) m17 i17) (h22 : f l1 = .inl (0, m21, .inl g21)) (h23 : l1 < n ∨ l1 = mi_SC) (h24 : mi_ix (l5 + 4) m21 i21) (h26 : f l1 = .inl (0, m25, .inl g25)) (h27 : l1 < n ∨ l1 = mi_SC) (h28 : mi_ix (l5 + 5) m25 i25) (h29 : mi_W d 13 0 (mi_en 8 [.ref l2, .int (g9 i9), .int (g13 i13), .int (g17 i17), .int (g21 i21), .int (g25 i25), .ref l4]) [] (n, sl, f) (mi_Kc d 202 144 [some (.ref l1), some (.ref l2), some (.ref l3), some (.ref l4), some (.int l5), o6, o7, o8] [] Q)) : mi_W (d + 1) 202 112 [some (.ref l1), some (.ref l2), some (.ref l3), some (.ref l4), some (.int l5), o6, o7, o8] [] (n, sl, f) Q := by
  refine w_aload_n cd_202_112 rfl ?_
  refine w_aload_n cd_202_113 rfl ?_
  refine w_iload cd_202_114 rfl ?_
  refine w_iconst (v := 1) cd_202_116 (by decide) ?_
  refine w_iadd cd_202_117 ?_
  refine w_iaload cd_202_118 h10 h11 h12 ?_
  refine w_aload_n cd_202_119 rfl ?_
  refine w_iload cd_202_120 rfl ?_
  refine w_iconst (v := 2) cd_202_122 (by decide) ?_
  refine w_iadd cd_202_123 ?_
  refine w_iaload cd_202_124 h14 h15 h16 ?_
  refine w_aload_n cd_202_125 rfl ?_
  refine w_iload cd_202_126 rfl ?_
  refine w_iconst (v := 3) cd_202_128 (by decide) ?_
  refine w_iadd cd_202_129 ?_
  refine w_iaload cd_202_130 h18 h19 h20 ?_
  refine w_aload_n cd_202_131 rfl ?_
  refine w_iload cd_202_132 rfl ?_
  refine w_iconst (v := 4) cd_202_134 (by decide) ?_
  refine w_iadd cd_202_135 ?_
  refine w_iaload cd_202_136 h22 h23 h24 ?_
  refine w_aload_n cd_202_137 rfl ?_
  refine w_iload cd_202_138 rfl ?_
  refine w_iconst (v := 5) cd_202_140 (by decide) ?_
  refine w_iadd cd_202_141 ?_
  refine w_iaload cd_202_142 h26 h27 h28 ?_
  refine w_aload_n cd_202_143 rfl ?_
  exact w_invokestatic cd_202_144 (show mt_m 18 69 = some (13, 4) by decide +kernel) (by decide) (rest := []) rfl (as := [.ref l2, .int (g9 i9), .int (g13 i13), .int (g17 i17), .int (g21 i21), .int (g25 i25), .ref l4]) rfl ⟨Nat.le_of_ble_eq_true rfl, Nat.le_of_ble_eq_true rfl, Nat.le_of_ble_eq_true rfl⟩ h29
theorem b_202_147 {d : Nat} {Q : (Option Value ⊕ Nat) → mi_H → Prop} (n sl : Nat) (f : Nat → mi_C) {l1 : Nat} {l2 : Nat} {l3 : Nat} {l4 : Nat} {l5 : Int32} {o6 : Option Value} {o7 : Option Value} {o8 : Option Value} {s9 : Int32} (m10 i10 : Nat) (g10 : Nat → Int32) (m14 i14 : Nat) (g14 : Nat → Int32) (m18 i18 : Nat) (g18 : Nat → Int32) (m22 i22 : Nat) (g22 : Nat → Int32) (m26 i26 : Nat) (g26 : Nat → Int32) {fs30 : List Value} (h11 : f l1 = .inl (0, m10, .inl g10)) (h12 : l1 < n ∨ l1 = mi_SC) (h13 : mi_ix (l5 + 1) m10 i10) (h15 : f l1 = .inl (0, m14, .inl g14)) (h16 : l1 < n ∨ l1 = mi_SC) (h17 : mi_ix (l5 + 2) m14 i14) (h19 : f l1 = .inl (0, m18, .inl g18)) (h20 : l1 < n ∨ l1 = mi_SC) (h21 : mi_ix (l5 + 3) m18 i18) (h23 : f l1 = .inl (0, m22, .inl g22)) (h24 : l1 < n ∨ l1 = mi_SC) (h25 : mi_ix (l5 + 4) m22 i22) (h27 : f l1 = .inl (0, m26, .inl g26)) (h28 : l1 < n ∨ l1 = mi_SC) (h29 : mi_ix (l5 + 5) m26 i26) (h31 : f l3 = .inr (12, fs30)) (h32 : l3 < n) (h33 : mi_W d 137 0 (mi_en 8 [.ref l3, .int (g10 i10), .int (g14 i14), .int (g18 i18), .int (g22 i22), .int (g26 i26)]) [] (n, sl, f) (mi_Kc d 202 180 [some (.ref l1), some (.ref l2), some (.ref l3), some (.ref l4), some (.int l5), some (.int s9), o7, o8] [] Q)) : mi_W (d + 1) 202 147 [some (.ref l1), some (.ref l2), some (.ref l3), some (.ref l4), some (.int l5), o6, o7, o8] [.int s9] (n, sl, f) Q := by
  refine w_istore (ls' := [some (.ref l1), some (.ref l2), some (.ref l3), some (.ref l4), some (.int l5), some (.int s9), o7, o8]) cd_202_147 (Nat.le_of_ble_eq_true rfl) rfl ?_
  refine w_aload_n cd_202_149 rfl ?_
  refine w_aload_n cd_202_150 rfl ?_
  refine w_iload cd_202_151 rfl ?_
  refine w_iconst (v := 1) cd_202_153 (by decide) ?_
  refine w_iadd cd_202_154 ?_
  refine w_iaload cd_202_155 h11 h12 h13 ?_
  refine w_aload_n cd_202_156 rfl ?_
  refine w_iload cd_202_157 rfl ?_
  refine w_iconst (v := 2) cd_202_159 (by decide) ?_
  refine w_iadd cd_202_160 ?_
  refine w_iaload cd_202_161 h15 h16 h17 ?_
  refine w_aload_n cd_202_162 rfl ?_
  refine w_iload cd_202_163 rfl ?_
  refine w_iconst (v := 3) cd_202_165 (by decide) ?_
  refine w_iadd cd_202_166 ?_
  refine w_iaload cd_202_167 h19 h20 h21 ?_
  refine w_aload_n cd_202_168 rfl ?_
  refine w_iload cd_202_169 rfl ?_
  refine w_iconst (v := 4) cd_202_171 (by decide) ?_
  refine w_iadd cd_202_172 ?_
  refine w_iaload cd_202_173 h23 h24 h25 ?_
  refine w_aload_n cd_202_174 rfl ?_
  refine w_iload cd_202_175 rfl ?_
  refine w_iconst (v := 5) cd_202_177 (by decide) ?_
  refine w_iadd cd_202_178 ?_
  refine w_iaload cd_202_179 h27 h28 h29 ?_
  exact w_invokevirtual cd_202_180 (show mt_m 18 74 = some (137, 0) by decide +kernel) (rest := []) rfl (as := [.ref l3, .int (g10 i10), .int (g14 i14), .int (g18 i18), .int (g22 i22), .int (g26 i26)]) rfl h31 (Or.inl h32) ⟨Nat.le_of_ble_eq_true rfl, Nat.le_of_ble_eq_true rfl, Nat.le_of_ble_eq_true rfl⟩ h33
theorem b_202_183 {d : Nat} {Q : (Option Value ⊕ Nat) → mi_H → Prop} (n sl : Nat) (f : Nat → mi_C) {l1 : Nat} {l2 : Nat} {l3 : Nat} {l4 : Nat} {l5 : Int32} {l6 : Int32} {o7 : Option Value} {o8 : Option Value} {s9 : Int32} {fs10 : List Value} (h11 : f l3 = .inr (12, fs10)) (h12 : l3 < n) (h13 : mi_W d 136 0 (mi_en 1 [.ref l3]) [] (n, sl, f) (mi_Kc d 202 186 [some (.ref l1), some (.ref l2), some (.ref l3), some (.ref l4), some (.int l5), some (.int l6), some (.int s9), o8] [] Q)) : mi_W (d + 1) 202 183 [some (.ref l1), some (.ref l2), some (.ref l3), some (.ref l4), some (.int l5), some (.int l6), o7, o8] [.int s9] (n, sl, f) Q := by
  refine w_istore (ls' := [some (.ref l1), some (.ref l2), some (.ref l3), some (.ref l4), some (.int l5), some (.int l6), some (.int s9), o8]) cd_202_183 (Nat.le_of_ble_eq_true rfl) rfl ?_
  refine w_aload_n cd_202_185 rfl ?_
  exact w_invokevirtual cd_202_186 (show mt_m 18 75 = some (136, 0) by decide +kernel) (rest := []) rfl (as := [.ref l3]) rfl h11 (Or.inl h12) ⟨Nat.le_of_ble_eq_true rfl, Nat.le_of_ble_eq_true rfl, Nat.le_of_ble_eq_true rfl⟩ h13
theorem b_202_189 {d : Nat} {Q : (Option Value ⊕ Nat) → mi_H → Prop} (n sl : Nat) (f : Nat → mi_C) {l1 : Nat} {l2 : Nat} {l3 : Nat} {l4 : Nat} {l5 : Int32} {l6 : Int32} {l7 : Int32} {o8 : Option Value} {s9 : Int32} (h10 : s9 = l6 → mi_W d 202 196 [some (.ref l1), some (.ref l2), some (.ref l3), some (.ref l4), some (.int l5), some (.int l6), some (.int l7), o8] [] (n, sl, f) Q) (h11 : ¬ (s9 = l6) → mi_W d 202 194 [some (.ref l1), some (.ref l2), some (.ref l3), some (.ref l4), some (.int l5), some (.int l6), some (.int l7), o8] [] (n, sl, f) Q) : mi_W d 202 189 [some (.ref l1), some (.ref l2), some (.ref l3), some (.ref l4), some (.int l5), some (.int l6), some (.int l7), o8] [.int s9] (n, sl, f) Q := by
  refine w_iload cd_202_189 rfl ?_
  exact w_if_icmpeq cd_202_191 (by decide) h10 h11
theorem b_202_194 {d : Nat} {Q : (Option Value ⊕ Nat) → mi_H → Prop} (n sl : Nat) (f : Nat → mi_C) {l1 : Nat} {l2 : Nat} {l3 : Nat} {l4 : Nat} {l5 : Int32} {l6 : Int32} {l7 : Int32} {o8 : Option Value} (h9 : Q (.inl (some (.int 0))) (n, sl, f)) : mi_W d 202 194 [some (.ref l1), some (.ref l2), some (.ref l3), some (.ref l4), some (.int l5), some (.int l6), some (.int l7), o8] [] (n, sl, f) Q := by
  refine w_iconst (v := 0) cd_202_194 (by decide) ?_
  exact w_ireturn_z cd_202_195 (by decide +kernel) (by decide) h9
theorem b_202_196 {d : Nat} {Q : (Option Value ⊕ Nat) → mi_H → Prop} (n sl : Nat) (f : Nat → mi_C) {l1 : Nat} {l2 : Nat} {l3 : Nat} {l4 : Nat} {l5 : Int32} {l6 : Int32} {l7 : Int32} {o8 : Option Value} (h9 : ¬ l6 = (0 : Int32) → mi_W d 202 213 [some (.ref l1), some (.ref l2), some (.ref l3), some (.ref l4), some (.int l5), some (.int l6), some (.int l7), o8] [] (n, sl, f) Q) (h10 : ¬ (¬ l6 = (0 : Int32)) → mi_W d 202 201 [some (.ref l1), some (.ref l2), some (.ref l3), some (.ref l4), some (.int l5), some (.int l6), some (.int l7), o8] [] (n, sl, f) Q) : mi_W d 202 196 [some (.ref l1), some (.ref l2), some (.ref l3), some (.ref l4), some (.int l5), some (.int l6), some (.int l7), o8] [] (n, sl, f) Q := by
  refine w_iload cd_202_196 rfl ?_
  exact w_ifne cd_202_198 (by decide) h9 h10
theorem b_202_201 {d : Nat} {Q : (Option Value ⊕ Nat) → mi_H → Prop} (n sl : Nat) (f : Nat → mi_C) {l1 : Nat} {l2 : Nat} {l3 : Nat} {l4 : Nat} {l5 : Int32} {l6 : Int32} {l7 : Int32} {o8 : Option Value} (m9 i9 : Nat) (g9 : Nat → Int64) (h10 : f l4 = .inl (3, m9, .inr (.inl g9))) (h11 : l4 < n) (h12 : mi_ix 0 m9 i9) (h13 : (lg_cmp (g9 i9) ((l7 : Int32).toInt64)) = (0 : Int32) → mi_W d 202 213 [some (.ref l1), some (.ref l2), some (.ref l3), some (.ref l4), some (.int l5), some (.int l6), some (.int l7), o8] [] (n, sl, f) Q) (h14 : ¬ ((lg_cmp (g9 i9) ((l7 : Int32).toInt64)) = (0 : Int32)) → mi_W d 202 211 [some (.ref l1), some (.ref l2), some (.ref l3), some (.ref l4), some (.int l5), some (.int l6), some (.int l7), o8] [] (n, sl, f) Q) : mi_W d 202 201 [some (.ref l1), some (.ref l2), some (.ref l3), some (.ref l4), some (.int l5), some (.int l6), some (.int l7), o8] [] (n, sl, f) Q := by
  refine w_aload_n cd_202_201 rfl ?_
  refine w_iconst (v := 0) cd_202_202 (by decide) ?_
  refine w_laload cd_202_203 h10 h11 h12 ?_
  refine w_iload cd_202_204 rfl ?_
  refine w_i2l cd_202_206 ?_
  refine w_lcmp cd_202_207 ?_
  exact w_ifeq cd_202_208 (by decide) h13 h14
theorem b_202_211 {d : Nat} {Q : (Option Value ⊕ Nat) → mi_H → Prop} (n sl : Nat) (f : Nat → mi_C) {l1 : Nat} {l2 : Nat} {l3 : Nat} {l4 : Nat} {l5 : Int32} {l6 : Int32} {l7 : Int32} {o8 : Option Value} (h9 : Q (.inl (some (.int 0))) (n, sl, f)) : mi_W d 202 211 [some (.ref l1), some (.ref l2), some (.ref l3), some (.ref l4), some (.int l5), some (.int l6), some (.int l7), o8] [] (n, sl, f) Q := by
  refine w_iconst (v := 0) cd_202_211 (by decide) ?_
  exact w_ireturn_z cd_202_212 (by decide +kernel) (by decide) h9
theorem b_202_213 {d : Nat} {Q : (Option Value ⊕ Nat) → mi_H → Prop} (n sl : Nat) (f : Nat → mi_C) {l1 : Nat} {l2 : Nat} {l3 : Nat} {l4 : Nat} {l5 : Int32} {l6 : Int32} {l7 : Int32} {o8 : Option Value} (h9 : mi_W d 202 1165 [some (.ref l1), some (.ref l2), some (.ref l3), some (.ref l4), some (.int l5), some (.int l6), some (.int l7), o8] [] (n, sl, f) Q) : mi_W d 202 213 [some (.ref l1), some (.ref l2), some (.ref l3), some (.ref l4), some (.int l5), some (.int l6), some (.int l7), o8] [] (n, sl, f) Q := by
  exact w_goto cd_202_213 (by decide) h9
theorem b_202_216 {d : Nat} {Q : (Option Value ⊕ Nat) → mi_H → Prop} (n sl : Nat) (f : Nat → mi_C) {l1 : Nat} {l2 : Nat} {l3 : Nat} {l4 : Nat} {l5 : Int32} {o6 : Option Value} {o7 : Option Value} {o8 : Option Value} (m9 i9 : Nat) (g9 : Nat → Int32) (h10 : f l1 = .inl (0, m9, .inl g9)) (h11 : l1 < n ∨ l1 = mi_SC) (h12 : mi_ix (l5 + 1) m9 i9) (h13 : mi_W d 16 0 (mi_en 4 [.ref l2, .int (g9 i9), .ref l4]) [] (n, sl, f) (mi_Kc d 202 224 [some (.ref l1), some (.ref l2), some (.ref l3), some (.ref l4), some (.int l5), o6, o7, o8] [] Q)) : mi_W (d + 1) 202 216 [some (.ref l1), some (.ref l2), some (.ref l3), some (.ref l4), some (.int l5), o6, o7, o8] [] (n, sl, f) Q := by
  refine w_aload_n cd_202_216 rfl ?_
  refine w_aload_n cd_202_217 rfl ?_
  refine w_iload cd_202_218 rfl ?_
  refine w_iconst (v := 1) cd_202_220 (by decide) ?_
  refine w_iadd cd_202_221 ?_
  refine w_iaload cd_202_222 h10 h11 h12 ?_
  refine w_aload_n cd_202_223 rfl ?_
  exact w_invokestatic cd_202_224 (show mt_m 18 78 = some (16, 4) by decide +kernel) (by decide) (rest := []) rfl (as := [.ref l2, .int (g9 i9), .ref l4]) rfl ⟨Nat.le_of_ble_eq_true rfl, Nat.le_of_ble_eq_true rfl, Nat.le_of_ble_eq_true rfl⟩ h13
theorem b_202_227 {d : Nat} {Q : (Option Value ⊕ Nat) → mi_H → Prop} (n sl : Nat) (f : Nat → mi_C) {l1 : Nat} {l2 : Nat} {l3 : Nat} {l4 : Nat} {l5 : Int32} {o6 : Option Value} {o7 : Option Value} {o8 : Option Value} {s9 : Int32} (m10 i10 : Nat) (g10 : Nat → Int32) {fs14 : List Value} (h11 : f l1 = .inl (0, m10, .inl g10)) (h12 : l1 < n ∨ l1 = mi_SC) (h13 : mi_ix (l5 + 1) m10 i10) (h15 : f l3 = .inr (12, fs14)) (h16 : l3 < n) (h17 : mi_W d 139 0 (mi_en 3 [.ref l3, .int (g10 i10)]) [] (n, sl, f) (mi_Kc d 202 236 [some (.ref l1), some (.ref l2), some (.ref l3), some (.ref l4), some (.int l5), some (.int s9), o7, o8] [] Q)) : mi_W (d + 1) 202 227 [some (.ref l1), some (.ref l2), some (.ref l3), some (.ref l4), some (.int l5), o6, o7, o8] [.int s9] (n, sl, f) Q := by
  refine w_istore (ls' := [some (.ref l1), some (.ref l2), some (.ref l3), some (.ref l4), some (.int l5), some (.int s9), o7, o8]) cd_202_227 (Nat.le_of_ble_eq_true rfl) rfl ?_
  refine w_aload_n cd_202_229 rfl ?_
  refine w_aload_n cd_202_230 rfl ?_
  refine w_iload cd_202_231 rfl ?_
  refine w_iconst (v := 1) cd_202_233 (by decide) ?_
  refine w_iadd cd_202_234 ?_
  refine w_iaload cd_202_235 h11 h12 h13 ?_
  exact w_invokevirtual cd_202_236 (show mt_m 18 81 = some (139, 0) by decide +kernel) (rest := []) rfl (as := [.ref l3, .int (g10 i10)]) rfl h15 (Or.inl h16) ⟨Nat.le_of_ble_eq_true rfl, Nat.le_of_ble_eq_true rfl, Nat.le_of_ble_eq_true rfl⟩ h17
theorem b_202_239 {d : Nat} {Q : (Option Value ⊕ Nat) → mi_H → Prop} (n sl : Nat) (f : Nat → mi_C) {l1 : Nat} {l2 : Nat} {l3 : Nat} {l4 : Nat} {l5 : Int32} {l6 : Int32} {o7 : Option Value} {o8 : Option Value} {s9 : Int32} {fs10 : List Value} (h11 : f l3 = .inr (12, fs10)) (h12 : l3 < n) (h13 : mi_W d 136 0 (mi_en 1 [.ref l3]) [] (n, sl, f) (mi_Kc d 202 242 [some (.ref l1), some (.ref l2), some (.ref l3), some (.ref l4), some (.int l5), some (.int l6), some (.int s9), o8] [] Q)) : mi_W (d + 1) 202 239 [some (.ref l1), some (.ref l2), some (.ref l3), some (.ref l4), some (.int l5), some (.int l6), o7, o8] [.int s9] (n, sl, f) Q := by
  refine w_istore (ls' := [some (.ref l1), some (.ref l2), some (.ref l3), some (.ref l4), some (.int l5), some (.int l6), some (.int s9), o8]) cd_202_239 (Nat.le_of_ble_eq_true rfl) rfl ?_
  refine w_aload_n cd_202_241 rfl ?_
  exact w_invokevirtual cd_202_242 (show mt_m 18 75 = some (136, 0) by decide +kernel) (rest := []) rfl (as := [.ref l3]) rfl h11 (Or.inl h12) ⟨Nat.le_of_ble_eq_true rfl, Nat.le_of_ble_eq_true rfl, Nat.le_of_ble_eq_true rfl⟩ h13
theorem b_202_245 {d : Nat} {Q : (Option Value ⊕ Nat) → mi_H → Prop} (n sl : Nat) (f : Nat → mi_C) {l1 : Nat} {l2 : Nat} {l3 : Nat} {l4 : Nat} {l5 : Int32} {l6 : Int32} {l7 : Int32} {o8 : Option Value} {s9 : Int32} (h10 : s9 = l6 → mi_W d 202 252 [some (.ref l1), some (.ref l2), some (.ref l3), some (.ref l4), some (.int l5), some (.int l6), some (.int l7), o8] [] (n, sl, f) Q) (h11 : ¬ (s9 = l6) → mi_W d 202 250 [some (.ref l1), some (.ref l2), some (.ref l3), some (.ref l4), some (.int l5), some (.int l6), some (.int l7), o8] [] (n, sl, f) Q) : mi_W d 202 245 [some (.ref l1), some (.ref l2), some (.ref l3), some (.ref l4), some (.int l5), some (.int l6), some (.int l7), o8] [.int s9] (n, sl, f) Q := by
  refine w_iload cd_202_245 rfl ?_
  exact w_if_icmpeq cd_202_247 (by decide) h10 h11
theorem b_202_250 {d : Nat} {Q : (Option Value ⊕ Nat) → mi_H → Prop} (n sl : Nat) (f : Nat → mi_C) {l1 : Nat} {l2 : Nat} {l3 : Nat} {l4 : Nat} {l5 : Int32} {l6 : Int32} {l7 : Int32} {o8 : Option Value} (h9 : Q (.inl (some (.int 0))) (n, sl, f)) : mi_W d 202 250 [some (.ref l1), some (.ref l2), some (.ref l3), some (.ref l4), some (.int l5), some (.int l6), some (.int l7), o8] [] (n, sl, f) Q := by
  refine w_iconst (v := 0) cd_202_250 (by decide) ?_
  exact w_ireturn_z cd_202_251 (by decide +kernel) (by decide) h9
theorem b_202_252 {d : Nat} {Q : (Option Value ⊕ Nat) → mi_H → Prop} (n sl : Nat) (f : Nat → mi_C) {l1 : Nat} {l2 : Nat} {l3 : Nat} {l4 : Nat} {l5 : Int32} {l6 : Int32} {l7 : Int32} {o8 : Option Value} (h9 : ¬ l6 = (0 : Int32) → mi_W d 202 269 [some (.ref l1), some (.ref l2), some (.ref l3), some (.ref l4), some (.int l5), some (.int l6), some (.int l7), o8] [] (n, sl, f) Q) (h10 : ¬ (¬ l6 = (0 : Int32)) → mi_W d 202 257 [some (.ref l1), some (.ref l2), some (.ref l3), some (.ref l4), some (.int l5), some (.int l6), some (.int l7), o8] [] (n, sl, f) Q) : mi_W d 202 252 [some (.ref l1), some (.ref l2), some (.ref l3), some (.ref l4), some (.int l5), some (.int l6), some (.int l7), o8] [] (n, sl, f) Q := by
  refine w_iload cd_202_252 rfl ?_
  exact w_ifne cd_202_254 (by decide) h9 h10
theorem b_202_257 {d : Nat} {Q : (Option Value ⊕ Nat) → mi_H → Prop} (n sl : Nat) (f : Nat → mi_C) {l1 : Nat} {l2 : Nat} {l3 : Nat} {l4 : Nat} {l5 : Int32} {l6 : Int32} {l7 : Int32} {o8 : Option Value} (m9 i9 : Nat) (g9 : Nat → Int64) (h10 : f l4 = .inl (3, m9, .inr (.inl g9))) (h11 : l4 < n) (h12 : mi_ix 0 m9 i9) (h13 : (lg_cmp (g9 i9) ((l7 : Int32).toInt64)) = (0 : Int32) → mi_W d 202 269 [some (.ref l1), some (.ref l2), some (.ref l3), some (.ref l4), some (.int l5), some (.int l6), some (.int l7), o8] [] (n, sl, f) Q) (h14 : ¬ ((lg_cmp (g9 i9) ((l7 : Int32).toInt64)) = (0 : Int32)) → mi_W d 202 267 [some (.ref l1), some (.ref l2), some (.ref l3), some (.ref l4), some (.int l5), some (.int l6), some (.int l7), o8] [] (n, sl, f) Q) : mi_W d 202 257 [some (.ref l1), some (.ref l2), some (.ref l3), some (.ref l4), some (.int l5), some (.int l6), some (.int l7), o8] [] (n, sl, f) Q := by
  refine w_aload_n cd_202_257 rfl ?_
  refine w_iconst (v := 0) cd_202_258 (by decide) ?_
  refine w_laload cd_202_259 h10 h11 h12 ?_
  refine w_iload cd_202_260 rfl ?_
  refine w_i2l cd_202_262 ?_
  refine w_lcmp cd_202_263 ?_
  exact w_ifeq cd_202_264 (by decide) h13 h14
theorem b_202_267 {d : Nat} {Q : (Option Value ⊕ Nat) → mi_H → Prop} (n sl : Nat) (f : Nat → mi_C) {l1 : Nat} {l2 : Nat} {l3 : Nat} {l4 : Nat} {l5 : Int32} {l6 : Int32} {l7 : Int32} {o8 : Option Value} (h9 : Q (.inl (some (.int 0))) (n, sl, f)) : mi_W d 202 267 [some (.ref l1), some (.ref l2), some (.ref l3), some (.ref l4), some (.int l5), some (.int l6), some (.int l7), o8] [] (n, sl, f) Q := by
  refine w_iconst (v := 0) cd_202_267 (by decide) ?_
  exact w_ireturn_z cd_202_268 (by decide +kernel) (by decide) h9
theorem b_202_269 {d : Nat} {Q : (Option Value ⊕ Nat) → mi_H → Prop} (n sl : Nat) (f : Nat → mi_C) {l1 : Nat} {l2 : Nat} {l3 : Nat} {l4 : Nat} {l5 : Int32} {l6 : Int32} {l7 : Int32} {o8 : Option Value} (h9 : mi_W d 202 1165 [some (.ref l1), some (.ref l2), some (.ref l3), some (.ref l4), some (.int l5), some (.int l6), some (.int l7), o8] [] (n, sl, f) Q) : mi_W d 202 269 [some (.ref l1), some (.ref l2), some (.ref l3), some (.ref l4), some (.int l5), some (.int l6), some (.int l7), o8] [] (n, sl, f) Q := by
  exact w_goto cd_202_269 (by decide) h9
theorem b_202_272 {d : Nat} {Q : (Option Value ⊕ Nat) → mi_H → Prop} (n sl : Nat) (f : Nat → mi_C) {l1 : Nat} {l2 : Nat} {l3 : Nat} {l4 : Nat} {l5 : Int32} {o6 : Option Value} {o7 : Option Value} {o8 : Option Value} {fs9 : List Value} (h10 : f l2 = .inr (0, fs9)) (h11 : l2 < n) (h12 : mi_W d 12 0 (mi_en 1 [.ref l2]) [] (n, sl, f) (mi_Kc d 202 273 [some (.ref l1), some (.ref l2), some (.ref l3), some (.ref l4), some (.int l5), o6, o7, o8] [] Q)) : mi_W (d + 1) 202 272 [some (.ref l1), some (.ref l2), some (.ref l3), some (.ref l4), some (.int l5), o6, o7, o8] [] (n, sl, f) Q := by
  refine w_aload_n cd_202_272 rfl ?_
  exact w_invokevirtual cd_202_273 (show mt_m 18 82 = some (12, 0) by decide +kernel) (rest := []) rfl (as := [.ref l2]) rfl h10 (Or.inl h11) ⟨Nat.le_of_ble_eq_true rfl, Nat.le_of_ble_eq_true rfl, Nat.le_of_ble_eq_true rfl⟩ h12
theorem b_202_276 {d : Nat} {Q : (Option Value ⊕ Nat) → mi_H → Prop} (n sl : Nat) (f : Nat → mi_C) {l1 : Nat} {l2 : Nat} {l3 : Nat} {l4 : Nat} {l5 : Int32} {o6 : Option Value} {o7 : Option Value} {o8 : Option Value} {s9 : Int32} {fs10 : List Value} (h11 : f l3 = .inr (12, fs10)) (h12 : l3 < n) (h13 : mi_W d 169 0 (mi_en 1 [.ref l3]) [] (n, sl, f) (mi_Kc d 202 277 [some (.ref l1), some (.ref l2), some (.ref l3), some (.ref l4), some (.int l5), o6, o7, o8] [.int s9] Q)) : mi_W (d + 1) 202 276 [some (.ref l1), some (.ref l2), some (.ref l3), some (.ref l4), some (.int l5), o6, o7, o8] [.int s9] (n, sl, f) Q := by
  refine w_aload_n cd_202_276 rfl ?_
  exact w_invokevirtual cd_202_277 (show mt_m 18 85 = some (169, 0) by decide +kernel) (rest := [.int s9]) rfl (as := [.ref l3]) rfl h11 (Or.inl h12) ⟨Nat.le_of_ble_eq_true rfl, Nat.le_of_ble_eq_true rfl, Nat.le_of_ble_eq_true rfl⟩ h13
theorem b_202_280 {d : Nat} {Q : (Option Value ⊕ Nat) → mi_H → Prop} (n sl : Nat) (f : Nat → mi_C) {l1 : Nat} {l2 : Nat} {l3 : Nat} {l4 : Nat} {l5 : Int32} {o6 : Option Value} {o7 : Option Value} {o8 : Option Value} {s9 : Int32} {s10 : Int32} (h11 : s10 = s9 → mi_W d 202 1165 [some (.ref l1), some (.ref l2), some (.ref l3), some (.ref l4), some (.int l5), o6, o7, o8] [] (n, sl, f) Q) (h12 : ¬ (s10 = s9) → mi_W d 202 283 [some (.ref l1), some (.ref l2), some (.ref l3), some (.ref l4), some (.int l5), o6, o7, o8] [] (n, sl, f) Q) : mi_W d 202 280 [some (.ref l1), some (.ref l2), some (.ref l3), some (.ref l4), some (.int l5), o6, o7, o8] [.int s9, .int s10] (n, sl, f) Q := by
  exact w_if_icmpeq cd_202_280 (by decide) h11 h12
theorem b_202_283 {d : Nat} {Q : (Option Value ⊕ Nat) → mi_H → Prop} (n sl : Nat) (f : Nat → mi_C) {l1 : Nat} {l2 : Nat} {l3 : Nat} {l4 : Nat} {l5 : Int32} {o6 : Option Value} {o7 : Option Value} {o8 : Option Value} (h9 : Q (.inl (some (.int 0))) (n, sl, f)) : mi_W d 202 283 [some (.ref l1), some (.ref l2), some (.ref l3), some (.ref l4), some (.int l5), o6, o7, o8] [] (n, sl, f) Q := by
  refine w_iconst (v := 0) cd_202_283 (by decide) ?_
  exact w_ireturn_z cd_202_284 (by decide +kernel) (by decide) h9
theorem b_202_285 {d : Nat} {Q : (Option Value ⊕ Nat) → mi_H → Prop} (n sl : Nat) (f : Nat → mi_C) {l1 : Nat} {l2 : Nat} {l3 : Nat} {l4 : Nat} {l5 : Int32} {o6 : Option Value} {o7 : Option Value} {o8 : Option Value} (m9 i9 : Nat) (g9 : Nat → Int32) (m13 i13 : Nat) (g13 : Nat → Int32) (m17 i17 : Nat) (g17 : Nat → Int32) (m21 i21 : Nat) (g21 : Nat → Int32) (h10 : f l1 = .inl (0, m9, .inl g9)) (h11 : l1 < n ∨ l1 = mi_SC) (h12 : mi_ix (l5 + 1) m9 i9) (h14 : f l1 = .inl (0, m13, .inl g13)) (h15 : l1 < n ∨ l1 = mi_SC) (h16 : mi_ix (l5 + 2) m13 i13) (h18 : f l1 = .inl (0, m17, .inl g17)) (h19 : l1 < n ∨ l1 = mi_SC) (h20 : mi_ix (l5 + 3) m17 i17) (h22 : f l1 = .inl (0, m21, .inl g21)) (h23 : l1 < n ∨ l1 = mi_SC) (h24 : mi_ix (l5 + 4) m21 i21) (h25 : mi_W d 56 0 (mi_en 7 [.ref l2, .int (g9 i9), .int (g13 i13), .long (((((g17 i17) : Int32).toInt64) <<< ((32 : Int32).toInt64 &&& 63)) ||| ((((g21 i21) : Int32).toInt64) &&& 4294967295)), .ref l4]) [] (n, sl, f) (mi_Kc d 202 321 [some (.ref l1), some (.ref l2), some (.ref l3), some (.ref l4), some (.int l5), o6, o7, o8] [] Q)) : mi_W (d + 1) 202 285 [some (.ref l1), some (.ref l2), some (.ref l3), some (.ref l4), some (.int l5), o6, o7, o8] [] (n, sl, f) Q := by
  refine w_aload_n cd_202_285 rfl ?_
  refine w_aload_n cd_202_286 rfl ?_
  refine w_iload cd_202_287 rfl ?_
  refine w_iconst (v := 1) cd_202_289 (by decide) ?_
  refine w_iadd cd_202_290 ?_
  refine w_iaload cd_202_291 h10 h11 h12 ?_
  refine w_aload_n cd_202_292 rfl ?_
  refine w_iload cd_202_293 rfl ?_
  refine w_iconst (v := 2) cd_202_295 (by decide) ?_
  refine w_iadd cd_202_296 ?_
  refine w_iaload cd_202_297 h14 h15 h16 ?_
  refine w_aload_n cd_202_298 rfl ?_
  refine w_iload cd_202_299 rfl ?_
  refine w_iconst (v := 3) cd_202_301 (by decide) ?_
  refine w_iadd cd_202_302 ?_
  refine w_iaload cd_202_303 h18 h19 h20 ?_
  refine w_i2l cd_202_304 ?_
  refine w_bipush (v := 32) cd_202_305 (by decide) ?_
  refine w_lshl cd_202_307 ?_
  refine w_aload_n cd_202_308 rfl ?_
  refine w_iload cd_202_309 rfl ?_
  refine w_iconst (v := 4) cd_202_311 (by decide) ?_
  refine w_iadd cd_202_312 ?_
  refine w_iaload cd_202_313 h22 h23 h24 ?_
  refine w_i2l cd_202_314 ?_
  refine w_ldc2_w (lv := 4294967295) cd_202_315 (by decide +kernel) ?_
  refine w_land cd_202_318 ?_
  refine w_lor cd_202_319 ?_
  refine w_aload_n cd_202_320 rfl ?_
  exact w_invokestatic cd_202_321 (show mt_m 18 88 = some (56, 4) by decide +kernel) (by decide) (rest := []) rfl (as := [.ref l2, .int (g9 i9), .int (g13 i13), .long (((((g17 i17) : Int32).toInt64) <<< ((32 : Int32).toInt64 &&& 63)) ||| ((((g21 i21) : Int32).toInt64) &&& 4294967295)), .ref l4]) rfl ⟨Nat.le_of_ble_eq_true rfl, Nat.le_of_ble_eq_true rfl, Nat.le_of_ble_eq_true rfl⟩ h25
theorem b_202_324 {d : Nat} {Q : (Option Value ⊕ Nat) → mi_H → Prop} (n sl : Nat) (f : Nat → mi_C) {l1 : Nat} {l2 : Nat} {l3 : Nat} {l4 : Nat} {l5 : Int32} {o6 : Option Value} {o7 : Option Value} {o8 : Option Value} {s9 : Int32} (m10 i10 : Nat) (g10 : Nat → Int32) (m14 i14 : Nat) (g14 : Nat → Int32) (m18 i18 : Nat) (g18 : Nat → Int32) (m22 i22 : Nat) (g22 : Nat → Int32) {fs26 : List Value} (h11 : f l1 = .inl (0, m10, .inl g10)) (h12 : l1 < n ∨ l1 = mi_SC) (h13 : mi_ix (l5 + 1) m10 i10) (h15 : f l1 = .inl (0, m14, .inl g14)) (h16 : l1 < n ∨ l1 = mi_SC) (h17 : mi_ix (l5 + 2) m14 i14) (h19 : f l1 = .inl (0, m18, .inl g18)) (h20 : l1 < n ∨ l1 = mi_SC) (h21 : mi_ix (l5 + 3) m18 i18) (h23 : f l1 = .inl (0, m22, .inl g22)) (h24 : l1 < n ∨ l1 = mi_SC) (h25 : mi_ix (l5 + 4) m22 i22) (h27 : f l3 = .inr (12, fs26)) (h28 : l3 < n) (h29 : mi_W d 184 0 (mi_en 7 [.ref l3, .int (g10 i10), .int (g14 i14), .long (((((g18 i18) : Int32).toInt64) <<< ((32 : Int32).toInt64 &&& 63)) ||| ((((g22 i22) : Int32).toInt64) &&& 4294967295))]) [] (n, sl, f) (mi_Kc d 202 361 [some (.ref l1), some (.ref l2), some (.ref l3), some (.ref l4), some (.int l5), some (.int s9), o7, o8] [] Q)) : mi_W (d + 1) 202 324 [some (.ref l1), some (.ref l2), some (.ref l3), some (.ref l4), some (.int l5), o6, o7, o8] [.int s9] (n, sl, f) Q := by
  refine w_istore (ls' := [some (.ref l1), some (.ref l2), some (.ref l3), some (.ref l4), some (.int l5), some (.int s9), o7, o8]) cd_202_324 (Nat.le_of_ble_eq_true rfl) rfl ?_
  refine w_aload_n cd_202_326 rfl ?_
  refine w_aload_n cd_202_327 rfl ?_
  refine w_iload cd_202_328 rfl ?_
  refine w_iconst (v := 1) cd_202_330 (by decide) ?_
  refine w_iadd cd_202_331 ?_
  refine w_iaload cd_202_332 h11 h12 h13 ?_
  refine w_aload_n cd_202_333 rfl ?_
  refine w_iload cd_202_334 rfl ?_
  refine w_iconst (v := 2) cd_202_336 (by decide) ?_
  refine w_iadd cd_202_337 ?_
  refine w_iaload cd_202_338 h15 h16 h17 ?_
  refine w_aload_n cd_202_339 rfl ?_
  refine w_iload cd_202_340 rfl ?_
  refine w_iconst (v := 3) cd_202_342 (by decide) ?_
  refine w_iadd cd_202_343 ?_
  refine w_iaload cd_202_344 h19 h20 h21 ?_
  refine w_i2l cd_202_345 ?_
  refine w_bipush (v := 32) cd_202_346 (by decide) ?_
  refine w_lshl cd_202_348 ?_
  refine w_aload_n cd_202_349 rfl ?_
  refine w_iload cd_202_350 rfl ?_
  refine w_iconst (v := 4) cd_202_352 (by decide) ?_
  refine w_iadd cd_202_353 ?_
  refine w_iaload cd_202_354 h23 h24 h25 ?_
  refine w_i2l cd_202_355 ?_
  refine w_ldc2_w (lv := 4294967295) cd_202_356 (by decide +kernel) ?_
  refine w_land cd_202_359 ?_
  refine w_lor cd_202_360 ?_
  exact w_invokevirtual cd_202_361 (show mt_m 18 91 = some (184, 0) by decide +kernel) (rest := []) rfl (as := [.ref l3, .int (g10 i10), .int (g14 i14), .long (((((g18 i18) : Int32).toInt64) <<< ((32 : Int32).toInt64 &&& 63)) ||| ((((g22 i22) : Int32).toInt64) &&& 4294967295))]) rfl h27 (Or.inl h28) ⟨Nat.le_of_ble_eq_true rfl, Nat.le_of_ble_eq_true rfl, Nat.le_of_ble_eq_true rfl⟩ h29
theorem b_202_364 {d : Nat} {Q : (Option Value ⊕ Nat) → mi_H → Prop} (n sl : Nat) (f : Nat → mi_C) {l1 : Nat} {l2 : Nat} {l3 : Nat} {l4 : Nat} {l5 : Int32} {l6 : Int32} {o7 : Option Value} {o8 : Option Value} {s9 : Int64} {fs10 : List Value} (h11 : f l3 = .inr (12, fs10)) (h12 : l3 < n) (h13 : mi_W d 136 0 (mi_en 1 [.ref l3]) [] (n, sl, f) (mi_Kc d 202 367 [some (.ref l1), some (.ref l2), some (.ref l3), some (.ref l4), some (.int l5), some (.int l6), some (.long s9), none] [] Q)) : mi_W (d + 1) 202 364 [some (.ref l1), some (.ref l2), some (.ref l3), some (.ref l4), some (.int l5), some (.int l6), o7, o8] [.long s9] (n, sl, f) Q := by
  refine w_lstore (ls' := [some (.ref l1), some (.ref l2), some (.ref l3), some (.ref l4), some (.int l5), some (.int l6), some (.long s9), none]) cd_202_364 (Nat.le_of_ble_eq_true rfl) rfl ?_
  refine w_aload_n cd_202_366 rfl ?_
  exact w_invokevirtual cd_202_367 (show mt_m 18 75 = some (136, 0) by decide +kernel) (rest := []) rfl (as := [.ref l3]) rfl h11 (Or.inl h12) ⟨Nat.le_of_ble_eq_true rfl, Nat.le_of_ble_eq_true rfl, Nat.le_of_ble_eq_true rfl⟩ h13
theorem b_202_370 {d : Nat} {Q : (Option Value ⊕ Nat) → mi_H → Prop} (n sl : Nat) (f : Nat → mi_C) {l1 : Nat} {l2 : Nat} {l3 : Nat} {l4 : Nat} {l5 : Int32} {l6 : Int32} {l7 : Int64} {s8 : Int32} (h9 : s8 = l6 → mi_W d 202 377 [some (.ref l1), some (.ref l2), some (.ref l3), some (.ref l4), some (.int l5), some (.int l6), some (.long l7), none] [] (n, sl, f) Q) (h10 : ¬ (s8 = l6) → mi_W d 202 375 [some (.ref l1), some (.ref l2), some (.ref l3), some (.ref l4), some (.int l5), some (.int l6), some (.long l7), none] [] (n, sl, f) Q) : mi_W d 202 370 [some (.ref l1), some (.ref l2), some (.ref l3), some (.ref l4), some (.int l5), some (.int l6), some (.long l7), none] [.int s8] (n, sl, f) Q := by
  refine w_iload cd_202_370 rfl ?_
  exact w_if_icmpeq cd_202_372 (by decide) h9 h10
theorem b_202_375 {d : Nat} {Q : (Option Value ⊕ Nat) → mi_H → Prop} (n sl : Nat) (f : Nat → mi_C) {l1 : Nat} {l2 : Nat} {l3 : Nat} {l4 : Nat} {l5 : Int32} {l6 : Int32} {l7 : Int64} (h8 : Q (.inl (some (.int 0))) (n, sl, f)) : mi_W d 202 375 [some (.ref l1), some (.ref l2), some (.ref l3), some (.ref l4), some (.int l5), some (.int l6), some (.long l7), none] [] (n, sl, f) Q := by
  refine w_iconst (v := 0) cd_202_375 (by decide) ?_
  exact w_ireturn_z cd_202_376 (by decide +kernel) (by decide) h8
theorem b_202_377 {d : Nat} {Q : (Option Value ⊕ Nat) → mi_H → Prop} (n sl : Nat) (f : Nat → mi_C) {l1 : Nat} {l2 : Nat} {l3 : Nat} {l4 : Nat} {l5 : Int32} {l6 : Int32} {l7 : Int64} (h8 : ¬ l6 = (0 : Int32) → mi_W d 202 393 [some (.ref l1), some (.ref l2), some (.ref l3), some (.ref l4), some (.int l5), some (.int l6), some (.long l7), none] [] (n, sl, f) Q) (h9 : ¬ (¬ l6 = (0 : Int32)) → mi_W d 202 382 [some (.ref l1), some (.ref l2), some (.ref l3), some (.ref l4), some (.int l5), some (.int l6), some (.long l7), none] [] (n, sl, f) Q) : mi_W d 202 377 [some (.ref l1), some (.ref l2), some (.ref l3), some (.ref l4), some (.int l5), some (.int l6), some (.long l7), none] [] (n, sl, f) Q := by
  refine w_iload cd_202_377 rfl ?_
  exact w_ifne cd_202_379 (by decide) h8 h9
theorem b_202_382 {d : Nat} {Q : (Option Value ⊕ Nat) → mi_H → Prop} (n sl : Nat) (f : Nat → mi_C) {l1 : Nat} {l2 : Nat} {l3 : Nat} {l4 : Nat} {l5 : Int32} {l6 : Int32} {l7 : Int64} (m8 i8 : Nat) (g8 : Nat → Int64) (h9 : f l4 = .inl (3, m8, .inr (.inl g8))) (h10 : l4 < n) (h11 : mi_ix 0 m8 i8) (h12 : (lg_cmp (g8 i8) l7) = (0 : Int32) → mi_W d 202 393 [some (.ref l1), some (.ref l2), some (.ref l3), some (.ref l4), some (.int l5), some (.int l6), some (.long l7), none] [] (n, sl, f) Q) (h13 : ¬ ((lg_cmp (g8 i8) l7) = (0 : Int32)) → mi_W d 202 391 [some (.ref l1), some (.ref l2), some (.ref l3), some (.ref l4), some (.int l5), some (.int l6), some (.long l7), none] [] (n, sl, f) Q) : mi_W d 202 382 [some (.ref l1), some (.ref l2), some (.ref l3), some (.ref l4), some (.int l5), some (.int l6), some (.long l7), none] [] (n, sl, f) Q := by
  refine w_aload_n cd_202_382 rfl ?_
  refine w_iconst (v := 0) cd_202_383 (by decide) ?_
  refine w_laload cd_202_384 h9 h10 h11 ?_
  refine w_lload cd_202_385 rfl ?_
  refine w_lcmp cd_202_387 ?_
  exact w_ifeq cd_202_388 (by decide) h12 h13
theorem b_202_391 {d : Nat} {Q : (Option Value ⊕ Nat) → mi_H → Prop} (n sl : Nat) (f : Nat → mi_C) {l1 : Nat} {l2 : Nat} {l3 : Nat} {l4 : Nat} {l5 : Int32} {l6 : Int32} {l7 : Int64} (h8 : Q (.inl (some (.int 0))) (n, sl, f)) : mi_W d 202 391 [some (.ref l1), some (.ref l2), some (.ref l3), some (.ref l4), some (.int l5), some (.int l6), some (.long l7), none] [] (n, sl, f) Q := by
  refine w_iconst (v := 0) cd_202_391 (by decide) ?_
  exact w_ireturn_z cd_202_392 (by decide +kernel) (by decide) h8
theorem b_202_393 {d : Nat} {Q : (Option Value ⊕ Nat) → mi_H → Prop} (n sl : Nat) (f : Nat → mi_C) {l1 : Nat} {l2 : Nat} {l3 : Nat} {l4 : Nat} {l5 : Int32} {l6 : Int32} {l7 : Int64} (h8 : mi_W d 202 1165 [some (.ref l1), some (.ref l2), some (.ref l3), some (.ref l4), some (.int l5), some (.int l6), some (.long l7), none] [] (n, sl, f) Q) : mi_W d 202 393 [some (.ref l1), some (.ref l2), some (.ref l3), some (.ref l4), some (.int l5), some (.int l6), some (.long l7), none] [] (n, sl, f) Q := by
  exact w_goto cd_202_393 (by decide) h8
theorem b_202_396 {d : Nat} {Q : (Option Value ⊕ Nat) → mi_H → Prop} (n sl : Nat) (f : Nat → mi_C) {l1 : Nat} {l2 : Nat} {l3 : Nat} {l4 : Nat} {l5 : Int32} {o6 : Option Value} {o7 : Option Value} {o8 : Option Value} (m9 i9 : Nat) (g9 : Nat → Int32) (m13 i13 : Nat) (g13 : Nat → Int32) (m17 i17 : Nat) (g17 : Nat → Int32) (m21 i21 : Nat) (g21 : Nat → Int32) (m25 i25 : Nat) (g25 : Nat → Int32) (h10 : f l1 = .inl (0, m9, .inl g9)) (h11 : l1 < n ∨ l1 = mi_SC) (h12 : mi_ix (l5 + 1) m9 i9) (h14 : f l1 = .inl (0, m13, .inl g13)) (h15 : l1 < n ∨ l1 = mi_SC) (h16 : mi_ix (l5 + 2) m13 i13) (h18 : f l1 = .inl (0, m17, .inl g17)) (h19 : l1 < n ∨ l1 = mi_SC) (h20 : mi_ix (l5 + 3) m17 i17) (h22 : f l1 = .inl (0, m21, .inl g21)) (h23 : l1 < n ∨ l1 = mi_SC) (h24 : mi_ix (l5 + 4) m21 i21) (h26 : f l1 = .inl (0, m25, .inl g25)) (h27 : l1 < n ∨ l1 = mi_SC) (h28 : mi_ix (l5 + 5) m25 i25) (h29 : mi_W d 60 0 (mi_en 8 [.ref l2, .int (g9 i9), .int (g13 i13), .int (g17 i17), .long (((((g21 i21) : Int32).toInt64) <<< ((32 : Int32).toInt64 &&& 63)) ||| ((((g25 i25) : Int32).toInt64) &&& 4294967295)), .ref l4]) [] (n, sl, f) (mi_Kc d 202 438 [some (.ref l1), some (.ref l2), some (.ref l3), some (.ref l4), some (.int l5), o6, o7, o8] [] Q)) : mi_W (d + 1) 202 396 [some (.ref l1), some (.ref l2), some (.ref l3), some (.ref l4), some (.int l5), o6, o7, o8] [] (n, sl, f) Q := by
  refine w_aload_n cd_202_396 rfl ?_
  refine w_aload_n cd_202_397 rfl ?_
  refine w_iload cd_202_398 rfl ?_
  refine w_iconst (v := 1) cd_202_400 (by decide) ?_
  refine w_iadd cd_202_401 ?_
  refine w_iaload cd_202_402 h10 h11 h12 ?_
  refine w_aload_n cd_202_403 rfl ?_
  refine w_iload cd_202_404 rfl ?_
  refine w_iconst (v := 2) cd_202_406 (by decide) ?_
  refine w_iadd cd_202_407 ?_
  refine w_iaload cd_202_408 h14 h15 h16 ?_
  refine w_aload_n cd_202_409 rfl ?_
  refine w_iload cd_202_410 rfl ?_
  refine w_iconst (v := 3) cd_202_412 (by decide) ?_
  refine w_iadd cd_202_413 ?_
  refine w_iaload cd_202_414 h18 h19 h20 ?_
  refine w_aload_n cd_202_415 rfl ?_
  refine w_iload cd_202_416 rfl ?_
  refine w_iconst (v := 4) cd_202_418 (by decide) ?_
  refine w_iadd cd_202_419 ?_
  refine w_iaload cd_202_420 h22 h23 h24 ?_
  refine w_i2l cd_202_421 ?_
  refine w_bipush (v := 32) cd_202_422 (by decide) ?_
  refine w_lshl cd_202_424 ?_
  refine w_aload_n cd_202_425 rfl ?_
  refine w_iload cd_202_426 rfl ?_
  refine w_iconst (v := 5) cd_202_428 (by decide) ?_
  refine w_iadd cd_202_429 ?_
  refine w_iaload cd_202_430 h26 h27 h28 ?_
  refine w_i2l cd_202_431 ?_
  refine w_ldc2_w (lv := 4294967295) cd_202_432 (by decide +kernel) ?_
  refine w_land cd_202_435 ?_
  refine w_lor cd_202_436 ?_
  refine w_aload_n cd_202_437 rfl ?_
  exact w_invokestatic cd_202_438 (show mt_m 18 92 = some (60, 4) by decide +kernel) (by decide) (rest := []) rfl (as := [.ref l2, .int (g9 i9), .int (g13 i13), .int (g17 i17), .long (((((g21 i21) : Int32).toInt64) <<< ((32 : Int32).toInt64 &&& 63)) ||| ((((g25 i25) : Int32).toInt64) &&& 4294967295)), .ref l4]) rfl ⟨Nat.le_of_ble_eq_true rfl, Nat.le_of_ble_eq_true rfl, Nat.le_of_ble_eq_true rfl⟩ h29
theorem b_202_441 {d : Nat} {Q : (Option Value ⊕ Nat) → mi_H → Prop} (n sl : Nat) (f : Nat → mi_C) {l1 : Nat} {l2 : Nat} {l3 : Nat} {l4 : Nat} {l5 : Int32} {o6 : Option Value} {o7 : Option Value} {o8 : Option Value} {s9 : Int32} (m10 i10 : Nat) (g10 : Nat → Int32) (m14 i14 : Nat) (g14 : Nat → Int32) (m18 i18 : Nat) (g18 : Nat → Int32) (m22 i22 : Nat) (g22 : Nat → Int32) (m26 i26 : Nat) (g26 : Nat → Int32) {fs30 : List Value} (h11 : f l1 = .inl (0, m10, .inl g10)) (h12 : l1 < n ∨ l1 = mi_SC) (h13 : mi_ix (l5 + 1) m10 i10) (h15 : f l1 = .inl (0, m14, .inl g14)) (h16 : l1 < n ∨ l1 = mi_SC) (h17 : mi_ix (l5 + 2) m14 i14) (h19 : f l1 = .inl (0, m18, .inl g18)) (h20 : l1 < n ∨ l1 = mi_SC) (h21 : mi_ix (l5 + 3) m18 i18) (h23 : f l1 = .inl (0, m22, .inl g22)) (h24 : l1 < n ∨ l1 = mi_SC) (h25 : mi_ix (l5 + 4) m22 i22) (h27 : f l1 = .inl (0, m26, .inl g26)) (h28 : l1 < n ∨ l1 = mi_SC) (h29 : mi_ix (l5 + 5) m26 i26) (h31 : f l3 = .inr (12, fs30)) (h32 : l3 < n) (h33 : mi_W d 185 0 (mi_en 6 [.ref l3, .int (g10 i10), .int (g14 i14), .int (g18 i18), .long (((((g22 i22) : Int32).toInt64) <<< ((32 : Int32).toInt64 &&& 63)) ||| ((((g26 i26) : Int32).toInt64) &&& 4294967295))]) [] (n, sl, f) (mi_Kc d 202 484 [some (.ref l1), some (.ref l2), some (.ref l3), some (.ref l4), some (.int l5), some (.int s9), o7, o8] [] Q)) : mi_W (d + 1) 202 441 [some (.ref l1), some (.ref l2), some (.ref l3), some (.ref l4), some (.int l5), o6, o7, o8] [.int s9] (n, sl, f) Q := by
  refine w_istore (ls' := [some (.ref l1), some (.ref l2), some (.ref l3), some (.ref l4), some (.int l5), some (.int s9), o7, o8]) cd_202_441 (Nat.le_of_ble_eq_true rfl) rfl ?_
  refine w_aload_n cd_202_443 rfl ?_
  refine w_aload_n cd_202_444 rfl ?_
  refine w_iload cd_202_445 rfl ?_
  refine w_iconst (v := 1) cd_202_447 (by decide) ?_
  refine w_iadd cd_202_448 ?_
  refine w_iaload cd_202_449 h11 h12 h13 ?_
  refine w_aload_n cd_202_450 rfl ?_
  refine w_iload cd_202_451 rfl ?_
  refine w_iconst (v := 2) cd_202_453 (by decide) ?_
  refine w_iadd cd_202_454 ?_
  refine w_iaload cd_202_455 h15 h16 h17 ?_
  refine w_aload_n cd_202_456 rfl ?_
  refine w_iload cd_202_457 rfl ?_
  refine w_iconst (v := 3) cd_202_459 (by decide) ?_
  refine w_iadd cd_202_460 ?_
  refine w_iaload cd_202_461 h19 h20 h21 ?_
  refine w_aload_n cd_202_462 rfl ?_
  refine w_iload cd_202_463 rfl ?_
  refine w_iconst (v := 4) cd_202_465 (by decide) ?_
  refine w_iadd cd_202_466 ?_
  refine w_iaload cd_202_467 h23 h24 h25 ?_
  refine w_i2l cd_202_468 ?_
  refine w_bipush (v := 32) cd_202_469 (by decide) ?_
  refine w_lshl cd_202_471 ?_
  refine w_aload_n cd_202_472 rfl ?_
  refine w_iload cd_202_473 rfl ?_
  refine w_iconst (v := 5) cd_202_475 (by decide) ?_
  refine w_iadd cd_202_476 ?_
  refine w_iaload cd_202_477 h27 h28 h29 ?_
  refine w_i2l cd_202_478 ?_
  refine w_ldc2_w (lv := 4294967295) cd_202_479 (by decide +kernel) ?_
  refine w_land cd_202_482 ?_
  refine w_lor cd_202_483 ?_
  exact w_invokevirtual cd_202_484 (show mt_m 18 95 = some (185, 0) by decide +kernel) (rest := []) rfl (as := [.ref l3, .int (g10 i10), .int (g14 i14), .int (g18 i18), .long (((((g22 i22) : Int32).toInt64) <<< ((32 : Int32).toInt64 &&& 63)) ||| ((((g26 i26) : Int32).toInt64) &&& 4294967295))]) rfl h31 (Or.inl h32) ⟨Nat.le_of_ble_eq_true rfl, Nat.le_of_ble_eq_true rfl, Nat.le_of_ble_eq_true rfl⟩ h33
theorem b_202_487 {d : Nat} {Q : (Option Value ⊕ Nat) → mi_H → Prop} (n sl : Nat) (f : Nat → mi_C) {l1 : Nat} {l2 : Nat} {l3 : Nat} {l4 : Nat} {l5 : Int32} {l6 : Int32} {o7 : Option Value} {o8 : Option Value} {s9 : Int32} {fs10 : List Value} (h11 : f l3 = .inr (12, fs10)) (h12 : l3 < n) (h13 : mi_W d 136 0 (mi_en 1 [.ref l3]) [] (n, sl, f) (mi_Kc d 202 490 [some (.ref l1), some (.ref l2), some (.ref l3), some (.ref l4), some (.int l5), some (.int l6), some (.int s9), o8] [] Q)) : mi_W (d + 1) 202 487 [some (.ref l1), some (.ref l2), some (.ref l3), some (.ref l4), some (.int l5), some (.int l6), o7, o8] [.int s9] (n, sl, f) Q := by
  refine w_istore (ls' := [some (.ref l1), some (.ref l2), some (.ref l3), some (.ref l4), some (.int l5), some (.int l6), some (.int s9), o8]) cd_202_487 (Nat.le_of_ble_eq_true rfl) rfl ?_
  refine w_aload_n cd_202_489 rfl ?_
  exact w_invokevirtual cd_202_490 (show mt_m 18 75 = some (136, 0) by decide +kernel) (rest := []) rfl (as := [.ref l3]) rfl h11 (Or.inl h12) ⟨Nat.le_of_ble_eq_true rfl, Nat.le_of_ble_eq_true rfl, Nat.le_of_ble_eq_true rfl⟩ h13
theorem b_202_493 {d : Nat} {Q : (Option Value ⊕ Nat) → mi_H → Prop} (n sl : Nat) (f : Nat → mi_C) {l1 : Nat} {l2 : Nat} {l3 : Nat} {l4 : Nat} {l5 : Int32} {l6 : Int32} {l7 : Int32} {o8 : Option Value} {s9 : Int32} (h10 : s9 = l6 → mi_W d 202 500 [some (.ref l1), some (.ref l2), some (.ref l3), some (.ref l4), some (.int l5), some (.int l6), some (.int l7), o8] [] (n, sl, f) Q) (h11 : ¬ (s9 = l6) → mi_W d 202 498 [some (.ref l1), some (.ref l2), some (.ref l3), some (.ref l4), some (.int l5), some (.int l6), some (.int l7), o8] [] (n, sl, f) Q) : mi_W d 202 493 [some (.ref l1), some (.ref l2), some (.ref l3), some (.ref l4), some (.int l5), some (.int l6), some (.int l7), o8] [.int s9] (n, sl, f) Q := by
  refine w_iload cd_202_493 rfl ?_
  exact w_if_icmpeq cd_202_495 (by decide) h10 h11
theorem b_202_498 {d : Nat} {Q : (Option Value ⊕ Nat) → mi_H → Prop} (n sl : Nat) (f : Nat → mi_C) {l1 : Nat} {l2 : Nat} {l3 : Nat} {l4 : Nat} {l5 : Int32} {l6 : Int32} {l7 : Int32} {o8 : Option Value} (h9 : Q (.inl (some (.int 0))) (n, sl, f)) : mi_W d 202 498 [some (.ref l1), some (.ref l2), some (.ref l3), some (.ref l4), some (.int l5), some (.int l6), some (.int l7), o8] [] (n, sl, f) Q := by
  refine w_iconst (v := 0) cd_202_498 (by decide) ?_
  exact w_ireturn_z cd_202_499 (by decide +kernel) (by decide) h9
theorem b_202_500 {d : Nat} {Q : (Option Value ⊕ Nat) → mi_H → Prop} (n sl : Nat) (f : Nat → mi_C) {l1 : Nat} {l2 : Nat} {l3 : Nat} {l4 : Nat} {l5 : Int32} {l6 : Int32} {l7 : Int32} {o8 : Option Value} (h9 : ¬ l6 = (0 : Int32) → mi_W d 202 517 [some (.ref l1), some (.ref l2), some (.ref l3), some (.ref l4), some (.int l5), some (.int l6), some (.int l7), o8] [] (n, sl, f) Q) (h10 : ¬ (¬ l6 = (0 : Int32)) → mi_W d 202 505 [some (.ref l1), some (.ref l2), some (.ref l3), some (.ref l4), some (.int l5), some (.int l6), some (.int l7), o8] [] (n, sl, f) Q) : mi_W d 202 500 [some (.ref l1), some (.ref l2), some (.ref l3), some (.ref l4), some (.int l5), some (.int l6), some (.int l7), o8] [] (n, sl, f) Q := by
  refine w_iload cd_202_500 rfl ?_
  exact w_ifne cd_202_502 (by decide) h9 h10
theorem b_202_505 {d : Nat} {Q : (Option Value ⊕ Nat) → mi_H → Prop} (n sl : Nat) (f : Nat → mi_C) {l1 : Nat} {l2 : Nat} {l3 : Nat} {l4 : Nat} {l5 : Int32} {l6 : Int32} {l7 : Int32} {o8 : Option Value} (m9 i9 : Nat) (g9 : Nat → Int64) (h10 : f l4 = .inl (3, m9, .inr (.inl g9))) (h11 : l4 < n) (h12 : mi_ix 0 m9 i9) (h13 : (lg_cmp (g9 i9) ((l7 : Int32).toInt64)) = (0 : Int32) → mi_W d 202 517 [some (.ref l1), some (.ref l2), some (.ref l3), some (.ref l4), some (.int l5), some (.int l6), some (.int l7), o8] [] (n, sl, f) Q) (h14 : ¬ ((lg_cmp (g9 i9) ((l7 : Int32).toInt64)) = (0 : Int32)) → mi_W d 202 515 [some (.ref l1), some (.ref l2), some (.ref l3), some (.ref l4), some (.int l5), some (.int l6), some (.int l7), o8] [] (n, sl, f) Q) : mi_W d 202 505 [some (.ref l1), some (.ref l2), some (.ref l3), some (.ref l4), some (.int l5), some (.int l6), some (.int l7), o8] [] (n, sl, f) Q := by
  refine w_aload_n cd_202_505 rfl ?_
  refine w_iconst (v := 0) cd_202_506 (by decide) ?_
  refine w_laload cd_202_507 h10 h11 h12 ?_
  refine w_iload cd_202_508 rfl ?_
  refine w_i2l cd_202_510 ?_
  refine w_lcmp cd_202_511 ?_
  exact w_ifeq cd_202_512 (by decide) h13 h14
theorem b_202_515 {d : Nat} {Q : (Option Value ⊕ Nat) → mi_H → Prop} (n sl : Nat) (f : Nat → mi_C) {l1 : Nat} {l2 : Nat} {l3 : Nat} {l4 : Nat} {l5 : Int32} {l6 : Int32} {l7 : Int32} {o8 : Option Value} (h9 : Q (.inl (some (.int 0))) (n, sl, f)) : mi_W d 202 515 [some (.ref l1), some (.ref l2), some (.ref l3), some (.ref l4), some (.int l5), some (.int l6), some (.int l7), o8] [] (n, sl, f) Q := by
  refine w_iconst (v := 0) cd_202_515 (by decide) ?_
  exact w_ireturn_z cd_202_516 (by decide +kernel) (by decide) h9
theorem b_202_517 {d : Nat} {Q : (Option Value ⊕ Nat) → mi_H → Prop} (n sl : Nat) (f : Nat → mi_C) {l1 : Nat} {l2 : Nat} {l3 : Nat} {l4 : Nat} {l5 : Int32} {l6 : Int32} {l7 : Int32} {o8 : Option Value} (h9 : mi_W d 202 1165 [some (.ref l1), some (.ref l2), some (.ref l3), some (.ref l4), some (.int l5), some (.int l6), some (.int l7), o8] [] (n, sl, f) Q) : mi_W d 202 517 [some (.ref l1), some (.ref l2), some (.ref l3), some (.ref l4), some (.int l5), some (.int l6), some (.int l7), o8] [] (n, sl, f) Q := by
  exact w_goto cd_202_517 (by decide) h9
theorem b_202_520 {d : Nat} {Q : (Option Value ⊕ Nat) → mi_H → Prop} (n sl : Nat) (f : Nat → mi_C) {l1 : Nat} {l2 : Nat} {l3 : Nat} {l4 : Nat} {l5 : Int32} {o6 : Option Value} {o7 : Option Value} {o8 : Option Value} (m9 i9 : Nat) (g9 : Nat → Int32) (m13 i13 : Nat) (g13 : Nat → Int32) (m17 i17 : Nat) (g17 : Nat → Int32) (h10 : f l1 = .inl (0, m9, .inl g9)) (h11 : l1 < n ∨ l1 = mi_SC) (h12 : mi_ix (l5 + 1) m9 i9) (h14 : f l1 = .inl (0, m13, .inl g13)) (h15 : l1 < n ∨ l1 = mi_SC) (h16 : mi_ix (l5 + 2) m13 i13) (h18 : f l1 = .inl (0, m17, .inl g17)) (h19 : l1 < n ∨ l1 = mi_SC) (h20 : mi_ix (l5 + 3) m17 i17) (h21 : mi_W d 64 0 (mi_en 6 [.ref l2, .int (g9 i9), .long (((((g13 i13) : Int32).toInt64) <<< ((32 : Int32).toInt64 &&& 63)) ||| ((((g17 i17) : Int32).toInt64) &&& 4294967295)), .ref l4]) [] (n, sl, f) (mi_Kc d 202 550 [some (.ref l1), some (.ref l2), some (.ref l3), some (.ref l4), some (.int l5), o6, o7, o8] [] Q)) : mi_W (d + 1) 202 520 [some (.ref l1), some (.ref l2), some (.ref l3), some (.ref l4), some (.int l5), o6, o7, o8] [] (n, sl, f) Q := by
  refine w_aload_n cd_202_520 rfl ?_
  refine w_aload_n cd_202_521 rfl ?_
  refine w_iload cd_202_522 rfl ?_
  refine w_iconst (v := 1) cd_202_524 (by decide) ?_
  refine w_iadd cd_202_525 ?_
  refine w_iaload cd_202_526 h10 h11 h12 ?_
  refine w_aload_n cd_202_527 rfl ?_
  refine w_iload cd_202_528 rfl ?_
  refine w_iconst (v := 2) cd_202_530 (by decide) ?_
  refine w_iadd cd_202_531 ?_
  refine w_iaload cd_202_532 h14 h15 h16 ?_
  refine w_i2l cd_202_533 ?_
  refine w_bipush (v := 32) cd_202_534 (by decide) ?_
  refine w_lshl cd_202_536 ?_
  refine w_aload_n cd_202_537 rfl ?_
  refine w_iload cd_202_538 rfl ?_
  refine w_iconst (v := 3) cd_202_540 (by decide) ?_
  refine w_iadd cd_202_541 ?_
  refine w_iaload cd_202_542 h18 h19 h20 ?_
  refine w_i2l cd_202_543 ?_
  refine w_ldc2_w (lv := 4294967295) cd_202_544 (by decide +kernel) ?_
  refine w_land cd_202_547 ?_
  refine w_lor cd_202_548 ?_
  refine w_aload_n cd_202_549 rfl ?_
  exact w_invokestatic cd_202_550 (show mt_m 18 96 = some (64, 4) by decide +kernel) (by decide) (rest := []) rfl (as := [.ref l2, .int (g9 i9), .long (((((g13 i13) : Int32).toInt64) <<< ((32 : Int32).toInt64 &&& 63)) ||| ((((g17 i17) : Int32).toInt64) &&& 4294967295)), .ref l4]) rfl ⟨Nat.le_of_ble_eq_true rfl, Nat.le_of_ble_eq_true rfl, Nat.le_of_ble_eq_true rfl⟩ h21
theorem b_202_553 {d : Nat} {Q : (Option Value ⊕ Nat) → mi_H → Prop} (n sl : Nat) (f : Nat → mi_C) {l1 : Nat} {l2 : Nat} {l3 : Nat} {l4 : Nat} {l5 : Int32} {o6 : Option Value} {o7 : Option Value} {o8 : Option Value} {s9 : Int32} (m10 i10 : Nat) (g10 : Nat → Int32) (m14 i14 : Nat) (g14 : Nat → Int32) (m18 i18 : Nat) (g18 : Nat → Int32) {fs22 : List Value} (h11 : f l1 = .inl (0, m10, .inl g10)) (h12 : l1 < n ∨ l1 = mi_SC) (h13 : mi_ix (l5 + 1) m10 i10) (h15 : f l1 = .inl (0, m14, .inl g14)) (h16 : l1 < n ∨ l1 = mi_SC) (h17 : mi_ix (l5 + 2) m14 i14) (h19 : f l1 = .inl (0, m18, .inl g18)) (h20 : l1 < n ∨ l1 = mi_SC) (h21 : mi_ix (l5 + 3) m18 i18) (h23 : f l3 = .inr (12, fs22)) (h24 : l3 < n) (h25 : mi_W d 187 0 (mi_en 4 [.ref l3, .int (g10 i10), .long (((((g14 i14) : Int32).toInt64) <<< ((32 : Int32).toInt64 &&& 63)) ||| ((((g18 i18) : Int32).toInt64) &&& 4294967295))]) [] (n, sl, f) (mi_Kc d 202 584 [some (.ref l1), some (.ref l2), some (.ref l3), some (.ref l4), some (.int l5), some (.int s9), o7, o8] [] Q)) : mi_W (d + 1) 202 553 [some (.ref l1), some (.ref l2), some (.ref l3), some (.ref l4), some (.int l5), o6, o7, o8] [.int s9] (n, sl, f) Q := by
  refine w_istore (ls' := [some (.ref l1), some (.ref l2), some (.ref l3), some (.ref l4), some (.int l5), some (.int s9), o7, o8]) cd_202_553 (Nat.le_of_ble_eq_true rfl) rfl ?_
  refine w_aload_n cd_202_555 rfl ?_
  refine w_aload_n cd_202_556 rfl ?_
  refine w_iload cd_202_557 rfl ?_
  refine w_iconst (v := 1) cd_202_559 (by decide) ?_
  refine w_iadd cd_202_560 ?_
  refine w_iaload cd_202_561 h11 h12 h13 ?_
  refine w_aload_n cd_202_562 rfl ?_
  refine w_iload cd_202_563 rfl ?_
  refine w_iconst (v := 2) cd_202_565 (by decide) ?_
  refine w_iadd cd_202_566 ?_
  refine w_iaload cd_202_567 h15 h16 h17 ?_
  refine w_i2l cd_202_568 ?_
  refine w_bipush (v := 32) cd_202_569 (by decide) ?_
  refine w_lshl cd_202_571 ?_
  refine w_aload_n cd_202_572 rfl ?_
  refine w_iload cd_202_573 rfl ?_
  refine w_iconst (v := 3) cd_202_575 (by decide) ?_
  refine w_iadd cd_202_576 ?_
  refine w_iaload cd_202_577 h19 h20 h21 ?_
  refine w_i2l cd_202_578 ?_
  refine w_ldc2_w (lv := 4294967295) cd_202_579 (by decide +kernel) ?_
  refine w_land cd_202_582 ?_
  refine w_lor cd_202_583 ?_
  exact w_invokevirtual cd_202_584 (show mt_m 18 99 = some (187, 0) by decide +kernel) (rest := []) rfl (as := [.ref l3, .int (g10 i10), .long (((((g14 i14) : Int32).toInt64) <<< ((32 : Int32).toInt64 &&& 63)) ||| ((((g18 i18) : Int32).toInt64) &&& 4294967295))]) rfl h23 (Or.inl h24) ⟨Nat.le_of_ble_eq_true rfl, Nat.le_of_ble_eq_true rfl, Nat.le_of_ble_eq_true rfl⟩ h25
theorem b_202_587 {d : Nat} {Q : (Option Value ⊕ Nat) → mi_H → Prop} (n sl : Nat) (f : Nat → mi_C) {l1 : Nat} {l2 : Nat} {l3 : Nat} {l4 : Nat} {l5 : Int32} {l6 : Int32} {o7 : Option Value} {o8 : Option Value} {s9 : Int32} {fs10 : List Value} (h11 : f l3 = .inr (12, fs10)) (h12 : l3 < n) (h13 : mi_W d 136 0 (mi_en 1 [.ref l3]) [] (n, sl, f) (mi_Kc d 202 590 [some (.ref l1), some (.ref l2), some (.ref l3), some (.ref l4), some (.int l5), some (.int l6), some (.int s9), o8] [] Q)) : mi_W (d + 1) 202 587 [some (.ref l1), some (.ref l2), some (.ref l3), some (.ref l4), some (.int l5), some (.int l6), o7, o8] [.int s9] (n, sl, f) Q := by
  refine w_istore (ls' := [some (.ref l1), some (.ref l2), some (.ref l3), some (.ref l4), some (.int l5), some (.int l6), some (.int s9), o8]) cd_202_587 (Nat.le_of_ble_eq_true rfl) rfl ?_
  refine w_aload_n cd_202_589 rfl ?_
  exact w_invokevirtual cd_202_590 (show mt_m 18 75 = some (136, 0) by decide +kernel) (rest := []) rfl (as := [.ref l3]) rfl h11 (Or.inl h12) ⟨Nat.le_of_ble_eq_true rfl, Nat.le_of_ble_eq_true rfl, Nat.le_of_ble_eq_true rfl⟩ h13
theorem b_202_593 {d : Nat} {Q : (Option Value ⊕ Nat) → mi_H → Prop} (n sl : Nat) (f : Nat → mi_C) {l1 : Nat} {l2 : Nat} {l3 : Nat} {l4 : Nat} {l5 : Int32} {l6 : Int32} {l7 : Int32} {o8 : Option Value} {s9 : Int32} (h10 : s9 = l6 → mi_W d 202 600 [some (.ref l1), some (.ref l2), some (.ref l3), some (.ref l4), some (.int l5), some (.int l6), some (.int l7), o8] [] (n, sl, f) Q) (h11 : ¬ (s9 = l6) → mi_W d 202 598 [some (.ref l1), some (.ref l2), some (.ref l3), some (.ref l4), some (.int l5), some (.int l6), some (.int l7), o8] [] (n, sl, f) Q) : mi_W d 202 593 [some (.ref l1), some (.ref l2), some (.ref l3), some (.ref l4), some (.int l5), some (.int l6), some (.int l7), o8] [.int s9] (n, sl, f) Q := by
  refine w_iload cd_202_593 rfl ?_
  exact w_if_icmpeq cd_202_595 (by decide) h10 h11
theorem b_202_598 {d : Nat} {Q : (Option Value ⊕ Nat) → mi_H → Prop} (n sl : Nat) (f : Nat → mi_C) {l1 : Nat} {l2 : Nat} {l3 : Nat} {l4 : Nat} {l5 : Int32} {l6 : Int32} {l7 : Int32} {o8 : Option Value} (h9 : Q (.inl (some (.int 0))) (n, sl, f)) : mi_W d 202 598 [some (.ref l1), some (.ref l2), some (.ref l3), some (.ref l4), some (.int l5), some (.int l6), some (.int l7), o8] [] (n, sl, f) Q := by
  refine w_iconst (v := 0) cd_202_598 (by decide) ?_
  exact w_ireturn_z cd_202_599 (by decide +kernel) (by decide) h9
theorem b_202_600 {d : Nat} {Q : (Option Value ⊕ Nat) → mi_H → Prop} (n sl : Nat) (f : Nat → mi_C) {l1 : Nat} {l2 : Nat} {l3 : Nat} {l4 : Nat} {l5 : Int32} {l6 : Int32} {l7 : Int32} {o8 : Option Value} (h9 : ¬ l6 = (0 : Int32) → mi_W d 202 617 [some (.ref l1), some (.ref l2), some (.ref l3), some (.ref l4), some (.int l5), some (.int l6), some (.int l7), o8] [] (n, sl, f) Q) (h10 : ¬ (¬ l6 = (0 : Int32)) → mi_W d 202 605 [some (.ref l1), some (.ref l2), some (.ref l3), some (.ref l4), some (.int l5), some (.int l6), some (.int l7), o8] [] (n, sl, f) Q) : mi_W d 202 600 [some (.ref l1), some (.ref l2), some (.ref l3), some (.ref l4), some (.int l5), some (.int l6), some (.int l7), o8] [] (n, sl, f) Q := by
  refine w_iload cd_202_600 rfl ?_
  exact w_ifne cd_202_602 (by decide) h9 h10
theorem b_202_605 {d : Nat} {Q : (Option Value ⊕ Nat) → mi_H → Prop} (n sl : Nat) (f : Nat → mi_C) {l1 : Nat} {l2 : Nat} {l3 : Nat} {l4 : Nat} {l5 : Int32} {l6 : Int32} {l7 : Int32} {o8 : Option Value} (m9 i9 : Nat) (g9 : Nat → Int64) (h10 : f l4 = .inl (3, m9, .inr (.inl g9))) (h11 : l4 < n) (h12 : mi_ix 0 m9 i9) (h13 : (lg_cmp (g9 i9) ((l7 : Int32).toInt64)) = (0 : Int32) → mi_W d 202 617 [some (.ref l1), some (.ref l2), some (.ref l3), some (.ref l4), some (.int l5), some (.int l6), some (.int l7), o8] [] (n, sl, f) Q) (h14 : ¬ ((lg_cmp (g9 i9) ((l7 : Int32).toInt64)) = (0 : Int32)) → mi_W d 202 615 [some (.ref l1), some (.ref l2), some (.ref l3), some (.ref l4), some (.int l5), some (.int l6), some (.int l7), o8] [] (n, sl, f) Q) : mi_W d 202 605 [some (.ref l1), some (.ref l2), some (.ref l3), some (.ref l4), some (.int l5), some (.int l6), some (.int l7), o8] [] (n, sl, f) Q := by
  refine w_aload_n cd_202_605 rfl ?_
  refine w_iconst (v := 0) cd_202_606 (by decide) ?_
  refine w_laload cd_202_607 h10 h11 h12 ?_
  refine w_iload cd_202_608 rfl ?_
  refine w_i2l cd_202_610 ?_
  refine w_lcmp cd_202_611 ?_
  exact w_ifeq cd_202_612 (by decide) h13 h14
theorem b_202_615 {d : Nat} {Q : (Option Value ⊕ Nat) → mi_H → Prop} (n sl : Nat) (f : Nat → mi_C) {l1 : Nat} {l2 : Nat} {l3 : Nat} {l4 : Nat} {l5 : Int32} {l6 : Int32} {l7 : Int32} {o8 : Option Value} (h9 : Q (.inl (some (.int 0))) (n, sl, f)) : mi_W d 202 615 [some (.ref l1), some (.ref l2), some (.ref l3), some (.ref l4), some (.int l5), some (.int l6), some (.int l7), o8] [] (n, sl, f) Q := by
  refine w_iconst (v := 0) cd_202_615 (by decide) ?_
  exact w_ireturn_z cd_202_616 (by decide +kernel) (by decide) h9
theorem b_202_617 {d : Nat} {Q : (Option Value ⊕ Nat) → mi_H → Prop} (n sl : Nat) (f : Nat → mi_C) {l1 : Nat} {l2 : Nat} {l3 : Nat} {l4 : Nat} {l5 : Int32} {l6 : Int32} {l7 : Int32} {o8 : Option Value} (h9 : mi_W d 202 1165 [some (.ref l1), some (.ref l2), some (.ref l3), some (.ref l4), some (.int l5), some (.int l6), some (.int l7), o8] [] (n, sl, f) Q) : mi_W d 202 617 [some (.ref l1), some (.ref l2), some (.ref l3), some (.ref l4), some (.int l5), some (.int l6), some (.int l7), o8] [] (n, sl, f) Q := by
  exact w_goto cd_202_617 (by decide) h9
theorem b_202_620 {d : Nat} {Q : (Option Value ⊕ Nat) → mi_H → Prop} (n sl : Nat) (f : Nat → mi_C) {l1 : Nat} {l2 : Nat} {l3 : Nat} {l4 : Nat} {l5 : Int32} {o6 : Option Value} {o7 : Option Value} {o8 : Option Value} (h9 : mi_W d 66 0 (mi_en 3 [.ref l2, .ref l4]) [] (n, sl, f) (mi_Kc d 202 622 [some (.ref l1), some (.ref l2), some (.ref l3), some (.ref l4), some (.int l5), o6, o7, o8] [] Q)) : mi_W (d + 1) 202 620 [some (.ref l1), some (.ref l2), some (.ref l3), some (.ref l4), some (.int l5), o6, o7, o8] [] (n, sl, f) Q := by
  refine w_aload_n cd_202_620 rfl ?_
  refine w_aload_n cd_202_621 rfl ?_
  exact w_invokestatic cd_202_622 (show mt_m 18 100 = some (66, 4) by decide +kernel) (by decide) (rest := []) rfl (as := [.ref l2, .ref l4]) rfl ⟨Nat.le_of_ble_eq_true rfl, Nat.le_of_ble_eq_true rfl, Nat.le_of_ble_eq_true rfl⟩ h9
theorem b_202_625 {d : Nat} {Q : (Option Value ⊕ Nat) → mi_H → Prop} (n sl : Nat) (f : Nat → mi_C) {l1 : Nat} {l2 : Nat} {l3 : Nat} {l4 : Nat} {l5 : Int32} {o6 : Option Value} {o7 : Option Value} {o8 : Option Value} {s9 : Int32} {fs10 : List Value} (h11 : f l3 = .inr (12, fs10)) (h12 : l3 < n) (h13 : mi_W d 188 0 (mi_en 1 [.ref l3]) [] (n, sl, f) (mi_Kc d 202 628 [some (.ref l1), some (.ref l2), some (.ref l3), some (.ref l4), some (.int l5), some (.int s9), o7, o8] [] Q)) : mi_W (d + 1) 202 625 [some (.ref l1), some (.ref l2), some (.ref l3), some (.ref l4), some (.int l5), o6, o7, o8] [.int s9] (n, sl, f) Q := by
  refine w_istore (ls' := [some (.ref l1), some (.ref l2), some (.ref l3), some (.ref l4), some (.int l5), some (.int s9), o7, o8]) cd_202_625 (Nat.le_of_ble_eq_true rfl) rfl ?_
  refine w_aload_n cd_202_627 rfl ?_
  exact w_invokevirtual cd_202_628 (show mt_m 18 103 = some (188, 0) by decide +kernel) (rest := []) rfl (as := [.ref l3]) rfl h11 (Or.inl h12) ⟨Nat.le_of_ble_eq_true rfl, Nat.le_of_ble_eq_true rfl, Nat.le_of_ble_eq_true rfl⟩ h13
theorem b_202_631 {d : Nat} {Q : (Option Value ⊕ Nat) → mi_H → Prop} (n sl : Nat) (f : Nat → mi_C) {l1 : Nat} {l2 : Nat} {l3 : Nat} {l4 : Nat} {l5 : Int32} {l6 : Int32} {o7 : Option Value} {o8 : Option Value} {s9 : Int32} {fs10 : List Value} (h11 : f l3 = .inr (12, fs10)) (h12 : l3 < n) (h13 : mi_W d 136 0 (mi_en 1 [.ref l3]) [] (n, sl, f) (mi_Kc d 202 634 [some (.ref l1), some (.ref l2), some (.ref l3), some (.ref l4), some (.int l5), some (.int l6), some (.int s9), o8] [] Q)) : mi_W (d + 1) 202 631 [some (.ref l1), some (.ref l2), some (.ref l3), some (.ref l4), some (.int l5), some (.int l6), o7, o8] [.int s9] (n, sl, f) Q := by
  refine w_istore (ls' := [some (.ref l1), some (.ref l2), some (.ref l3), some (.ref l4), some (.int l5), some (.int l6), some (.int s9), o8]) cd_202_631 (Nat.le_of_ble_eq_true rfl) rfl ?_
  refine w_aload_n cd_202_633 rfl ?_
  exact w_invokevirtual cd_202_634 (show mt_m 18 75 = some (136, 0) by decide +kernel) (rest := []) rfl (as := [.ref l3]) rfl h11 (Or.inl h12) ⟨Nat.le_of_ble_eq_true rfl, Nat.le_of_ble_eq_true rfl, Nat.le_of_ble_eq_true rfl⟩ h13
theorem b_202_637 {d : Nat} {Q : (Option Value ⊕ Nat) → mi_H → Prop} (n sl : Nat) (f : Nat → mi_C) {l1 : Nat} {l2 : Nat} {l3 : Nat} {l4 : Nat} {l5 : Int32} {l6 : Int32} {l7 : Int32} {o8 : Option Value} {s9 : Int32} (h10 : s9 = l6 → mi_W d 202 644 [some (.ref l1), some (.ref l2), some (.ref l3), some (.ref l4), some (.int l5), some (.int l6), some (.int l7), o8] [] (n, sl, f) Q) (h11 : ¬ (s9 = l6) → mi_W d 202 642 [some (.ref l1), some (.ref l2), some (.ref l3), some (.ref l4), some (.int l5), some (.int l6), some (.int l7), o8] [] (n, sl, f) Q) : mi_W d 202 637 [some (.ref l1), some (.ref l2), some (.ref l3), some (.ref l4), some (.int l5), some (.int l6), some (.int l7), o8] [.int s9] (n, sl, f) Q := by
  refine w_iload cd_202_637 rfl ?_
  exact w_if_icmpeq cd_202_639 (by decide) h10 h11
theorem b_202_642 {d : Nat} {Q : (Option Value ⊕ Nat) → mi_H → Prop} (n sl : Nat) (f : Nat → mi_C) {l1 : Nat} {l2 : Nat} {l3 : Nat} {l4 : Nat} {l5 : Int32} {l6 : Int32} {l7 : Int32} {o8 : Option Value} (h9 : Q (.inl (some (.int 0))) (n, sl, f)) : mi_W d 202 642 [some (.ref l1), some (.ref l2), some (.ref l3), some (.ref l4), some (.int l5), some (.int l6), some (.int l7), o8] [] (n, sl, f) Q := by
  refine w_iconst (v := 0) cd_202_642 (by decide) ?_
  exact w_ireturn_z cd_202_643 (by decide +kernel) (by decide) h9
theorem b_202_644 {d : Nat} {Q : (Option Value ⊕ Nat) → mi_H → Prop} (n sl : Nat) (f : Nat → mi_C) {l1 : Nat} {l2 : Nat} {l3 : Nat} {l4 : Nat} {l5 : Int32} {l6 : Int32} {l7 : Int32} {o8 : Option Value} (h9 : ¬ l6 = (0 : Int32) → mi_W d 202 661 [some (.ref l1), some (.ref l2), some (.ref l3), some (.ref l4), some (.int l5), some (.int l6), some (.int l7), o8] [] (n, sl, f) Q) (h10 : ¬ (¬ l6 = (0 : Int32)) → mi_W d 202 649 [some (.ref l1), some (.ref l2), some (.ref l3), some (.ref l4), some (.int l5), some (.int l6), some (.int l7), o8] [] (n, sl, f) Q) : mi_W d 202 644 [some (.ref l1), some (.ref l2), some (.ref l3), some (.ref l4), some (.int l5), some (.int l6), some (.int l7), o8] [] (n, sl, f) Q := by
  refine w_iload cd_202_644 rfl ?_
  exact w_ifne cd_202_646 (by decide) h9 h10
theorem b_202_649 {d : Nat} {Q : (Option Value ⊕ Nat) → mi_H → Prop} (n sl : Nat) (f : Nat → mi_C) {l1 : Nat} {l2 : Nat} {l3 : Nat} {l4 : Nat} {l5 : Int32} {l6 : Int32} {l7 : Int32} {o8 : Option Value} (m9 i9 : Nat) (g9 : Nat → Int64) (h10 : f l4 = .inl (3, m9, .inr (.inl g9))) (h11 : l4 < n) (h12 : mi_ix 0 m9 i9) (h13 : (lg_cmp (g9 i9) ((l7 : Int32).toInt64)) = (0 : Int32) → mi_W d 202 661 [some (.ref l1), some (.ref l2), some (.ref l3), some (.ref l4), some (.int l5), some (.int l6), some (.int l7), o8] [] (n, sl, f) Q) (h14 : ¬ ((lg_cmp (g9 i9) ((l7 : Int32).toInt64)) = (0 : Int32)) → mi_W d 202 659 [some (.ref l1), some (.ref l2), some (.ref l3), some (.ref l4), some (.int l5), some (.int l6), some (.int l7), o8] [] (n, sl, f) Q) : mi_W d 202 649 [some (.ref l1), some (.ref l2), some (.ref l3), some (.ref l4), some (.int l5), some (.int l6), some (.int l7), o8] [] (n, sl, f) Q := by
  refine w_aload_n cd_202_649 rfl ?_
  refine w_iconst (v := 0) cd_202_650 (by decide) ?_
  refine w_laload cd_202_651 h10 h11 h12 ?_
  refine w_iload cd_202_652 rfl ?_
  refine w_i2l cd_202_654 ?_
  refine w_lcmp cd_202_655 ?_
  exact w_ifeq cd_202_656 (by decide) h13 h14
theorem b_202_659 {d : Nat} {Q : (Option Value ⊕ Nat) → mi_H → Prop} (n sl : Nat) (f : Nat → mi_C) {l1 : Nat} {l2 : Nat} {l3 : Nat} {l4 : Nat} {l5 : Int32} {l6 : Int32} {l7 : Int32} {o8 : Option Value} (h9 : Q (.inl (some (.int 0))) (n, sl, f)) : mi_W d 202 659 [some (.ref l1), some (.ref l2), some (.ref l3), some (.ref l4), some (.int l5), some (.int l6), some (.int l7), o8] [] (n, sl, f) Q := by
  refine w_iconst (v := 0) cd_202_659 (by decide) ?_
  exact w_ireturn_z cd_202_660 (by decide +kernel) (by decide) h9
theorem b_202_661 {d : Nat} {Q : (Option Value ⊕ Nat) → mi_H → Prop} (n sl : Nat) (f : Nat → mi_C) {l1 : Nat} {l2 : Nat} {l3 : Nat} {l4 : Nat} {l5 : Int32} {l6 : Int32} {l7 : Int32} {o8 : Option Value} (h9 : mi_W d 202 1165 [some (.ref l1), some (.ref l2), some (.ref l3), some (.ref l4), some (.int l5), some (.int l6), some (.int l7), o8] [] (n, sl, f) Q) : mi_W d 202 661 [some (.ref l1), some (.ref l2), some (.ref l3), some (.ref l4), some (.int l5), some (.int l6), some (.int l7), o8] [] (n, sl, f) Q := by
  exact w_goto cd_202_661 (by decide) h9
theorem b_202_664 {d : Nat} {Q : (Option Value ⊕ Nat) → mi_H → Prop} (n sl : Nat) (f : Nat → mi_C) {l1 : Nat} {l2 : Nat} {l3 : Nat} {l4 : Nat} {l5 : Int32} {o6 : Option Value} {o7 : Option Value} {o8 : Option Value} (m9 i9 : Nat) (g9 : Nat → Int32) (m13 i13 : Nat) (g13 : Nat → Int32) (m17 i17 : Nat) (g17 : Nat → Int32) (m21 i21 : Nat) (g21 : Nat → Int32) (h10 : f l1 = .inl (0, m9, .inl g9)) (h11 : l1 < n ∨ l1 = mi_SC) (h12 : mi_ix (l5 + 1) m9 i9) (h14 : f l1 = .inl (0, m13, .inl g13)) (h15 : l1 < n ∨ l1 = mi_SC) (h16 : mi_ix (l5 + 2) m13 i13) (h18 : f l1 = .inl (0, m17, .inl g17)) (h19 : l1 < n ∨ l1 = mi_SC) (h20 : mi_ix (l5 + 3) m17 i17) (h22 : f l1 = .inl (0, m21, .inl g21)) (h23 : l1 < n ∨ l1 = mi_SC) (h24 : mi_ix (l5 + 4) m21 i21) (h25 : mi_W d 68 0 (mi_en 7 [.ref l2, .long (((((g9 i9) : Int32).toInt64) <<< ((32 : Int32).toInt64 &&& 63)) ||| ((((g13 i13) : Int32).toInt64) &&& 4294967295)), .long (((((g17 i17) : Int32).toInt64) <<< ((32 : Int32).toInt64 &&& 63)) ||| ((((g21 i21) : Int32).toInt64) &&& 4294967295)), .ref l4]) [] (n, sl, f) (mi_Kc d 202 710 [some (.ref l1), some (.ref l2), some (.ref l3), some (.ref l4), some (.int l5), o6, o7, o8] [] Q)) : mi_W (d + 1) 202 664 [some (.ref l1), some (.ref l2), some (.ref l3), some (.ref l4), some (.int l5), o6, o7, o8] [] (n, sl, f) Q := by
  refine w_aload_n cd_202_664 rfl ?_
  refine w_aload_n cd_202_665 rfl ?_
  refine w_iload cd_202_666 rfl ?_
  refine w_iconst (v := 1) cd_202_668 (by decide) ?_
  refine w_iadd cd_202_669 ?_
  refine w_iaload cd_202_670 h10 h11 h12 ?_
  refine w_i2l cd_202_671 ?_
  refine w_bipush (v := 32) cd_202_672 (by decide) ?_
  refine w_lshl cd_202_674 ?_
  refine w_aload_n cd_202_675 rfl ?_
  refine w_iload cd_202_676 rfl ?_
  refine w_iconst (v := 2) cd_202_678 (by decide) ?_
  refine w_iadd cd_202_679 ?_
  refine w_iaload cd_202_680 h14 h15 h16 ?_
  refine w_i2l cd_202_681 ?_
  refine w_ldc2_w (lv := 4294967295) cd_202_682 (by decide +kernel) ?_
  refine w_land cd_202_685 ?_
  refine w_lor cd_202_686 ?_
  refine w_aload_n cd_202_687 rfl ?_
  refine w_iload cd_202_688 rfl ?_
  refine w_iconst (v := 3) cd_202_690 (by decide) ?_
  refine w_iadd cd_202_691 ?_
  refine w_iaload cd_202_692 h18 h19 h20 ?_
  refine w_i2l cd_202_693 ?_
  refine w_bipush (v := 32) cd_202_694 (by decide) ?_
  refine w_lshl cd_202_696 ?_
  refine w_aload_n cd_202_697 rfl ?_
  refine w_iload cd_202_698 rfl ?_
  refine w_iconst (v := 4) cd_202_700 (by decide) ?_
  refine w_iadd cd_202_701 ?_
  refine w_iaload cd_202_702 h22 h23 h24 ?_
  refine w_i2l cd_202_703 ?_
  refine w_ldc2_w (lv := 4294967295) cd_202_704 (by decide +kernel) ?_
  refine w_land cd_202_707 ?_
  refine w_lor cd_202_708 ?_
  refine w_aload_n cd_202_709 rfl ?_
  exact w_invokestatic cd_202_710 (show mt_m 18 104 = some (68, 4) by decide +kernel) (by decide) (rest := []) rfl (as := [.ref l2, .long (((((g9 i9) : Int32).toInt64) <<< ((32 : Int32).toInt64 &&& 63)) ||| ((((g13 i13) : Int32).toInt64) &&& 4294967295)), .long (((((g17 i17) : Int32).toInt64) <<< ((32 : Int32).toInt64 &&& 63)) ||| ((((g21 i21) : Int32).toInt64) &&& 4294967295)), .ref l4]) rfl ⟨Nat.le_of_ble_eq_true rfl, Nat.le_of_ble_eq_true rfl, Nat.le_of_ble_eq_true rfl⟩ h25
theorem b_202_713 {d : Nat} {Q : (Option Value ⊕ Nat) → mi_H → Prop} (n sl : Nat) (f : Nat → mi_C) {l1 : Nat} {l2 : Nat} {l3 : Nat} {l4 : Nat} {l5 : Int32} {o6 : Option Value} {o7 : Option Value} {o8 : Option Value} {s9 : Int32} (m10 i10 : Nat) (g10 : Nat → Int32) (m14 i14 : Nat) (g14 : Nat → Int32) (m18 i18 : Nat) (g18 : Nat → Int32) (m22 i22 : Nat) (g22 : Nat → Int32) {fs26 : List Value} (h11 : f l1 = .inl (0, m10, .inl g10)) (h12 : l1 < n ∨ l1 = mi_SC) (h13 : mi_ix (l5 + 1) m10 i10) (h15 : f l1 = .inl (0, m14, .inl g14)) (h16 : l1 < n ∨ l1 = mi_SC) (h17 : mi_ix (l5 + 2) m14 i14) (h19 : f l1 = .inl (0, m18, .inl g18)) (h20 : l1 < n ∨ l1 = mi_SC) (h21 : mi_ix (l5 + 3) m18 i18) (h23 : f l1 = .inl (0, m22, .inl g22)) (h24 : l1 < n ∨ l1 = mi_SC) (h25 : mi_ix (l5 + 4) m22 i22) (h27 : f l3 = .inr (12, fs26)) (h28 : l3 < n) (h29 : mi_W d 170 0 (mi_en 7 [.ref l3, .long (((((g10 i10) : Int32).toInt64) <<< ((32 : Int32).toInt64 &&& 63)) ||| ((((g14 i14) : Int32).toInt64) &&& 4294967295)), .long (((((g18 i18) : Int32).toInt64) <<< ((32 : Int32).toInt64 &&& 63)) ||| ((((g22 i22) : Int32).toInt64) &&& 4294967295))]) [] (n, sl, f) (mi_Kc d 202 760 [some (.ref l1), some (.ref l2), some (.ref l3), some (.ref l4), some (.int l5), some (.int s9), o7, o8] [] Q)) : mi_W (d + 1) 202 713 [some (.ref l1), some (.ref l2), some (.ref l3), some (.ref l4), some (.int l5), o6, o7, o8] [.int s9] (n, sl, f) Q := by
  refine w_istore (ls' := [some (.ref l1), some (.ref l2), some (.ref l3), some (.ref l4), some (.int l5), some (.int s9), o7, o8]) cd_202_713 (Nat.le_of_ble_eq_true rfl) rfl ?_
  refine w_aload_n cd_202_715 rfl ?_
  refine w_aload_n cd_202_716 rfl ?_
  refine w_iload cd_202_717 rfl ?_
  refine w_iconst (v := 1) cd_202_719 (by decide) ?_
  refine w_iadd cd_202_720 ?_
  refine w_iaload cd_202_721 h11 h12 h13 ?_
  refine w_i2l cd_202_722 ?_
  refine w_bipush (v := 32) cd_202_723 (by decide) ?_
  refine w_lshl cd_202_725 ?_
  refine w_aload_n cd_202_726 rfl ?_
  refine w_iload cd_202_727 rfl ?_
  refine w_iconst (v := 2) cd_202_729 (by decide) ?_
  refine w_iadd cd_202_730 ?_
  refine w_iaload cd_202_731 h15 h16 h17 ?_
  refine w_i2l cd_202_732 ?_
  refine w_ldc2_w (lv := 4294967295) cd_202_733 (by decide +kernel) ?_
  refine w_land cd_202_736 ?_
  refine w_lor cd_202_737 ?_
  refine w_aload_n cd_202_738 rfl ?_
  refine w_iload cd_202_739 rfl ?_
  refine w_iconst (v := 3) cd_202_741 (by decide) ?_
  refine w_iadd cd_202_742 ?_
  refine w_iaload cd_202_743 h19 h20 h21 ?_
  refine w_i2l cd_202_744 ?_
  refine w_bipush (v := 32) cd_202_745 (by decide) ?_
  refine w_lshl cd_202_747 ?_
  refine w_aload_n cd_202_748 rfl ?_
  refine w_iload cd_202_749 rfl ?_
  refine w_iconst (v := 4) cd_202_751 (by decide) ?_
  refine w_iadd cd_202_752 ?_
  refine w_iaload cd_202_753 h23 h24 h25 ?_
  refine w_i2l cd_202_754 ?_
  refine w_ldc2_w (lv := 4294967295) cd_202_755 (by decide +kernel) ?_
  refine w_land cd_202_758 ?_
  refine w_lor cd_202_759 ?_
  exact w_invokevirtual cd_202_760 (show mt_m 18 107 = some (170, 0) by decide +kernel) (rest := []) rfl (as := [.ref l3, .long (((((g10 i10) : Int32).toInt64) <<< ((32 : Int32).toInt64 &&& 63)) ||| ((((g14 i14) : Int32).toInt64) &&& 4294967295)), .long (((((g18 i18) : Int32).toInt64) <<< ((32 : Int32).toInt64 &&& 63)) ||| ((((g22 i22) : Int32).toInt64) &&& 4294967295))]) rfl h27 (Or.inl h28) ⟨Nat.le_of_ble_eq_true rfl, Nat.le_of_ble_eq_true rfl, Nat.le_of_ble_eq_true rfl⟩ h29
theorem b_202_763 {d : Nat} {Q : (Option Value ⊕ Nat) → mi_H → Prop} (n sl : Nat) (f : Nat → mi_C) {l1 : Nat} {l2 : Nat} {l3 : Nat} {l4 : Nat} {l5 : Int32} {l6 : Int32} {o7 : Option Value} {o8 : Option Value} {s9 : Int32} {fs10 : List Value} (h11 : f l3 = .inr (12, fs10)) (h12 : l3 < n) (h13 : mi_W d 136 0 (mi_en 1 [.ref l3]) [] (n, sl, f) (mi_Kc d 202 766 [some (.ref l1), some (.ref l2), some (.ref l3), some (.ref l4), some (.int l5), some (.int l6), some (.int s9), o8] [] Q)) : mi_W (d + 1) 202 763 [some (.ref l1), some (.ref l2), some (.ref l3), some (.ref l4), some (.int l5), some (.int l6), o7, o8] [.int s9] (n, sl, f) Q := by
  refine w_istore (ls' := [some (.ref l1), some (.ref l2), some (.ref l3), some (.ref l4), some (.int l5), some (.int l6), some (.int s9), o8]) cd_202_763 (Nat.le_of_ble_eq_true rfl) rfl ?_
  refine w_aload_n cd_202_765 rfl ?_
  exact w_invokevirtual cd_202_766 (show mt_m 18 75 = some (136, 0) by decide +kernel) (rest := []) rfl (as := [.ref l3]) rfl h11 (Or.inl h12) ⟨Nat.le_of_ble_eq_true rfl, Nat.le_of_ble_eq_true rfl, Nat.le_of_ble_eq_true rfl⟩ h13
theorem b_202_769 {d : Nat} {Q : (Option Value ⊕ Nat) → mi_H → Prop} (n sl : Nat) (f : Nat → mi_C) {l1 : Nat} {l2 : Nat} {l3 : Nat} {l4 : Nat} {l5 : Int32} {l6 : Int32} {l7 : Int32} {o8 : Option Value} {s9 : Int32} (h10 : s9 = l6 → mi_W d 202 776 [some (.ref l1), some (.ref l2), some (.ref l3), some (.ref l4), some (.int l5), some (.int l6), some (.int l7), o8] [] (n, sl, f) Q) (h11 : ¬ (s9 = l6) → mi_W d 202 774 [some (.ref l1), some (.ref l2), some (.ref l3), some (.ref l4), some (.int l5), some (.int l6), some (.int l7), o8] [] (n, sl, f) Q) : mi_W d 202 769 [some (.ref l1), some (.ref l2), some (.ref l3), some (.ref l4), some (.int l5), some (.int l6), some (.int l7), o8] [.int s9] (n, sl, f) Q := by
  refine w_iload cd_202_769 rfl ?_
  exact w_if_icmpeq cd_202_771 (by decide) h10 h11
theorem b_202_774 {d : Nat} {Q : (Option Value ⊕ Nat) → mi_H → Prop} (n sl : Nat) (f : Nat → mi_C) {l1 : Nat} {l2 : Nat} {l3 : Nat} {l4 : Nat} {l5 : Int32} {l6 : Int32} {l7 : Int32} {o8 : Option Value} (h9 : Q (.inl (some (.int 0))) (n, sl, f)) : mi_W d 202 774 [some (.ref l1), some (.ref l2), some (.ref l3), some (.ref l4), some (.int l5), some (.int l6), some (.int l7), o8] [] (n, sl, f) Q := by
  refine w_iconst (v := 0) cd_202_774 (by decide) ?_
  exact w_ireturn_z cd_202_775 (by decide +kernel) (by decide) h9
theorem b_202_776 {d : Nat} {Q : (Option Value ⊕ Nat) → mi_H → Prop} (n sl : Nat) (f : Nat → mi_C) {l1 : Nat} {l2 : Nat} {l3 : Nat} {l4 : Nat} {l5 : Int32} {l6 : Int32} {l7 : Int32} {o8 : Option Value} (h9 : ¬ l6 = (0 : Int32) → mi_W d 202 793 [some (.ref l1), some (.ref l2), some (.ref l3), some (.ref l4), some (.int l5), some (.int l6), some (.int l7), o8] [] (n, sl, f) Q) (h10 : ¬ (¬ l6 = (0 : Int32)) → mi_W d 202 781 [some (.ref l1), some (.ref l2), some (.ref l3), some (.ref l4), some (.int l5), some (.int l6), some (.int l7), o8] [] (n, sl, f) Q) : mi_W d 202 776 [some (.ref l1), some (.ref l2), some (.ref l3), some (.ref l4), some (.int l5), some (.int l6), some (.int l7), o8] [] (n, sl, f) Q := by
  refine w_iload cd_202_776 rfl ?_
  exact w_ifne cd_202_778 (by decide) h9 h10
theorem b_202_781 {d : Nat} {Q : (Option Value ⊕ Nat) → mi_H → Prop} (n sl : Nat) (f : Nat → mi_C) {l1 : Nat} {l2 : Nat} {l3 : Nat} {l4 : Nat} {l5 : Int32} {l6 : Int32} {l7 : Int32} {o8 : Option Value} (m9 i9 : Nat) (g9 : Nat → Int64) (h10 : f l4 = .inl (3, m9, .inr (.inl g9))) (h11 : l4 < n) (h12 : mi_ix 0 m9 i9) (h13 : (lg_cmp (g9 i9) ((l7 : Int32).toInt64)) = (0 : Int32) → mi_W d 202 793 [some (.ref l1), some (.ref l2), some (.ref l3), some (.ref l4), some (.int l5), some (.int l6), some (.int l7), o8] [] (n, sl, f) Q) (h14 : ¬ ((lg_cmp (g9 i9) ((l7 : Int32).toInt64)) = (0 : Int32)) → mi_W d 202 791 [some (.ref l1), some (.ref l2), some (.ref l3), some (.ref l4), some (.int l5), some (.int l6), some (.int l7), o8] [] (n, sl, f) Q) : mi_W d 202 781 [some (.ref l1), some (.ref l2), some (.ref l3), some (.ref l4), some (.int l5), some (.int l6), some (.int l7), o8] [] (n, sl, f) Q := by
  refine w_aload_n cd_202_781 rfl ?_
  refine w_iconst (v := 0) cd_202_782 (by decide) ?_
  refine w_laload cd_202_783 h10 h11 h12 ?_
  refine w_iload cd_202_784 rfl ?_
  refine w_i2l cd_202_786 ?_
  refine w_lcmp cd_202_787 ?_
  exact w_ifeq cd_202_788 (by decide) h13 h14
theorem b_202_791 {d : Nat} {Q : (Option Value ⊕ Nat) → mi_H → Prop} (n sl : Nat) (f : Nat → mi_C) {l1 : Nat} {l2 : Nat} {l3 : Nat} {l4 : Nat} {l5 : Int32} {l6 : Int32} {l7 : Int32} {o8 : Option Value} (h9 : Q (.inl (some (.int 0))) (n, sl, f)) : mi_W d 202 791 [some (.ref l1), some (.ref l2), some (.ref l3), some (.ref l4), some (.int l5), some (.int l6), some (.int l7), o8] [] (n, sl, f) Q := by
  refine w_iconst (v := 0) cd_202_791 (by decide) ?_
  exact w_ireturn_z cd_202_792 (by decide +kernel) (by decide) h9
theorem b_202_793 {d : Nat} {Q : (Option Value ⊕ Nat) → mi_H → Prop} (n sl : Nat) (f : Nat → mi_C) {l1 : Nat} {l2 : Nat} {l3 : Nat} {l4 : Nat} {l5 : Int32} {l6 : Int32} {l7 : Int32} {o8 : Option Value} (h9 : mi_W d 202 1165 [some (.ref l1), some (.ref l2), some (.ref l3), some (.ref l4), some (.int l5), some (.int l6), some (.int l7), o8] [] (n, sl, f) Q) : mi_W d 202 793 [some (.ref l1), some (.ref l2), some (.ref l3), some (.ref l4), some (.int l5), some (.int l6), some (.int l7), o8] [] (n, sl, f) Q := by
  exact w_goto cd_202_793 (by decide) h9
theorem b_202_796 {d : Nat} {Q : (Option Value ⊕ Nat) → mi_H → Prop} (n sl : Nat) (f : Nat → mi_C) {l1 : Nat} {l2 : Nat} {l3 : Nat} {l4 : Nat} {l5 : Int32} {o6 : Option Value} {o7 : Option Value} {o8 : Option Value} (m9 i9 : Nat) (g9 : Nat → Int32) (m13 i13 : Nat) (g13 : Nat → Int32) (h10 : f l1 = .inl (0, m9, .inl g9)) (h11 : l1 < n ∨ l1 = mi_SC) (h12 : mi_ix (l5 + 1) m9 i9) (h14 : f l1 = .inl (0, m13, .inl g13)) (h15 : l1 < n ∨ l1 = mi_SC) (h16 : mi_ix (l5 + 2) m13 i13) (h17 : mi_W d 111 0 (mi_en 5 [.ref l2, .int (g9 i9), .int (g13 i13), .ref l4]) [] (n, sl, f) (mi_Kc d 202 810 [some (.ref l1), some (.ref l2), some (.ref l3), some (.ref l4), some (.int l5), o6, o7, o8] [] Q)) : mi_W (d + 1) 202 796 [some (.ref l1), some (.ref l2), some (.ref l3), some (.ref l4), some (.int l5), o6, o7, o8] [] (n, sl, f) Q := by
  refine w_aload_n cd_202_796 rfl ?_
  refine w_aload_n cd_202_797 rfl ?_
  refine w_iload cd_202_798 rfl ?_
  refine w_iconst (v := 1) cd_202_800 (by decide) ?_
  refine w_iadd cd_202_801 ?_
  refine w_iaload cd_202_802 h10 h11 h12 ?_
  refine w_aload_n cd_202_803 rfl ?_
  refine w_iload cd_202_804 rfl ?_
  refine w_iconst (v := 2) cd_202_806 (by decide) ?_
  refine w_iadd cd_202_807 ?_
  refine w_iaload cd_202_808 h14 h15 h16 ?_
  refine w_aload_n cd_202_809 rfl ?_
  exact w_invokestatic cd_202_810 (show mt_m 18 108 = some (111, 4) by decide +kernel) (by decide) (rest := []) rfl (as := [.ref l2, .int (g9 i9), .int (g13 i13), .ref l4]) rfl ⟨Nat.le_of_ble_eq_true rfl, Nat.le_of_ble_eq_true rfl, Nat.le_of_ble_eq_true rfl⟩ h17
theorem b_202_813 {d : Nat} {Q : (Option Value ⊕ Nat) → mi_H → Prop} (n sl : Nat) (f : Nat → mi_C) {l1 : Nat} {l2 : Nat} {l3 : Nat} {l4 : Nat} {l5 : Int32} {o6 : Option Value} {o7 : Option Value} {o8 : Option Value} {s9 : Int32} (m10 i10 : Nat) (g10 : Nat → Int32) (m14 i14 : Nat) (g14 : Nat → Int32) {fs18 : List Value} (h11 : f l1 = .inl (0, m10, .inl g10)) (h12 : l1 < n ∨ l1 = mi_SC) (h13 : mi_ix (l5 + 1) m10 i10) (h15 : f l1 = .inl (0, m14, .inl g14)) (h16 : l1 < n ∨ l1 = mi_SC) (h17 : mi_ix (l5 + 2) m14 i14) (h19 : f l3 = .inr (12, fs18)) (h20 : l3 < n) (h21 : mi_W d 189 0 (mi_en 3 [.ref l3, .int (g10 i10), .int (g14 i14)]) [] (n, sl, f) (mi_Kc d 202 828 [some (.ref l1), some (.ref l2), some (.ref l3), some (.ref l4), some (.int l5), some (.int s9), o7, o8] [] Q)) : mi_W (d + 1) 202 813 [some (.ref l1), some (.ref l2), some (.ref l3), some (.ref l4), some (.int l5), o6, o7, o8] [.int s9] (n, sl, f) Q := by
  refine w_istore (ls' := [some (.ref l1), some (.ref l2), some (.ref l3), some (.ref l4), some (.int l5), some (.int s9), o7, o8]) cd_202_813 (Nat.le_of_ble_eq_true rfl) rfl ?_
  refine w_aload_n cd_202_815 rfl ?_
  refine w_aload_n cd_202_816 rfl ?_
  refine w_iload cd_202_817 rfl ?_
  refine w_iconst (v := 1) cd_202_819 (by decide) ?_
  refine w_iadd cd_202_820 ?_
  refine w_iaload cd_202_821 h11 h12 h13 ?_
  refine w_aload_n cd_202_822 rfl ?_
  refine w_iload cd_202_823 rfl ?_
  refine w_iconst (v := 2) cd_202_825 (by decide) ?_
  refine w_iadd cd_202_826 ?_
  refine w_iaload cd_202_827 h15 h16 h17 ?_
  exact w_invokevirtual cd_202_828 (show mt_m 18 111 = some (189, 0) by decide +kernel) (rest := []) rfl (as := [.ref l3, .int (g10 i10), .int (g14 i14)]) rfl h19 (Or.inl h20) ⟨Nat.le_of_ble_eq_true rfl, Nat.le_of_ble_eq_true rfl, Nat.le_of_ble_eq_true rfl⟩ h21
theorem b_202_831 {d : Nat} {Q : (Option Value ⊕ Nat) → mi_H → Prop} (n sl : Nat) (f : Nat → mi_C) {l1 : Nat} {l2 : Nat} {l3 : Nat} {l4 : Nat} {l5 : Int32} {l6 : Int32} {o7 : Option Value} {o8 : Option Value} {s9 : Int32} {fs10 : List Value} (h11 : f l3 = .inr (12, fs10)) (h12 : l3 < n) (h13 : mi_W d 136 0 (mi_en 1 [.ref l3]) [] (n, sl, f) (mi_Kc d 202 834 [some (.ref l1), some (.ref l2), some (.ref l3), some (.ref l4), some (.int l5), some (.int l6), some (.int s9), o8] [] Q)) : mi_W (d + 1) 202 831 [some (.ref l1), some (.ref l2), some (.ref l3), some (.ref l4), some (.int l5), some (.int l6), o7, o8] [.int s9] (n, sl, f) Q := by
  refine w_istore (ls' := [some (.ref l1), some (.ref l2), some (.ref l3), some (.ref l4), some (.int l5), some (.int l6), some (.int s9), o8]) cd_202_831 (Nat.le_of_ble_eq_true rfl) rfl ?_
  refine w_aload_n cd_202_833 rfl ?_
  exact w_invokevirtual cd_202_834 (show mt_m 18 75 = some (136, 0) by decide +kernel) (rest := []) rfl (as := [.ref l3]) rfl h11 (Or.inl h12) ⟨Nat.le_of_ble_eq_true rfl, Nat.le_of_ble_eq_true rfl, Nat.le_of_ble_eq_true rfl⟩ h13
theorem b_202_837 {d : Nat} {Q : (Option Value ⊕ Nat) → mi_H → Prop} (n sl : Nat) (f : Nat → mi_C) {l1 : Nat} {l2 : Nat} {l3 : Nat} {l4 : Nat} {l5 : Int32} {l6 : Int32} {l7 : Int32} {o8 : Option Value} {s9 : Int32} (h10 : s9 = l6 → mi_W d 202 844 [some (.ref l1), some (.ref l2), some (.ref l3), some (.ref l4), some (.int l5), some (.int l6), some (.int l7), o8] [] (n, sl, f) Q) (h11 : ¬ (s9 = l6) → mi_W d 202 842 [some (.ref l1), some (.ref l2), some (.ref l3), some (.ref l4), some (.int l5), some (.int l6), some (.int l7), o8] [] (n, sl, f) Q) : mi_W d 202 837 [some (.ref l1), some (.ref l2), some (.ref l3), some (.ref l4), some (.int l5), some (.int l6), some (.int l7), o8] [.int s9] (n, sl, f) Q := by
  refine w_iload cd_202_837 rfl ?_
  exact w_if_icmpeq cd_202_839 (by decide) h10 h11
theorem b_202_842 {d : Nat} {Q : (Option Value ⊕ Nat) → mi_H → Prop} (n sl : Nat) (f : Nat → mi_C) {l1 : Nat} {l2 : Nat} {l3 : Nat} {l4 : Nat} {l5 : Int32} {l6 : Int32} {l7 : Int32} {o8 : Option Value} (h9 : Q (.inl (some (.int 0))) (n, sl, f)) : mi_W d 202 842 [some (.ref l1), some (.ref l2), some (.ref l3), some (.ref l4), some (.int l5), some (.int l6), some (.int l7), o8] [] (n, sl, f) Q := by
  refine w_iconst (v := 0) cd_202_842 (by decide) ?_
  exact w_ireturn_z cd_202_843 (by decide +kernel) (by decide) h9
theorem b_202_844 {d : Nat} {Q : (Option Value ⊕ Nat) → mi_H → Prop} (n sl : Nat) (f : Nat → mi_C) {l1 : Nat} {l2 : Nat} {l3 : Nat} {l4 : Nat} {l5 : Int32} {l6 : Int32} {l7 : Int32} {o8 : Option Value} (h9 : ¬ l6 = (0 : Int32) → mi_W d 202 861 [some (.ref l1), some (.ref l2), some (.ref l3), some (.ref l4), some (.int l5), some (.int l6), some (.int l7), o8] [] (n, sl, f) Q) (h10 : ¬ (¬ l6 = (0 : Int32)) → mi_W d 202 849 [some (.ref l1), some (.ref l2), some (.ref l3), some (.ref l4), some (.int l5), some (.int l6), some (.int l7), o8] [] (n, sl, f) Q) : mi_W d 202 844 [some (.ref l1), some (.ref l2), some (.ref l3), some (.ref l4), some (.int l5), some (.int l6), some (.int l7), o8] [] (n, sl, f) Q := by
  refine w_iload cd_202_844 rfl ?_
  exact w_ifne cd_202_846 (by decide) h9 h10
theorem b_202_849 {d : Nat} {Q : (Option Value ⊕ Nat) → mi_H → Prop} (n sl : Nat) (f : Nat → mi_C) {l1 : Nat} {l2 : Nat} {l3 : Nat} {l4 : Nat} {l5 : Int32} {l6 : Int32} {l7 : Int32} {o8 : Option Value} (m9 i9 : Nat) (g9 : Nat → Int64) (h10 : f l4 = .inl (3, m9, .inr (.inl g9))) (h11 : l4 < n) (h12 : mi_ix 0 m9 i9) (h13 : (lg_cmp (g9 i9) ((l7 : Int32).toInt64)) = (0 : Int32) → mi_W d 202 861 [some (.ref l1), some (.ref l2), some (.ref l3), some (.ref l4), some (.int l5), some (.int l6), some (.int l7), o8] [] (n, sl, f) Q) (h14 : ¬ ((lg_cmp (g9 i9) ((l7 : Int32).toInt64)) = (0 : Int32)) → mi_W d 202 859 [some (.ref l1), some (.ref l2), some (.ref l3), some (.ref l4), some (.int l5), some (.int l6), some (.int l7), o8] [] (n, sl, f) Q) : mi_W d 202 849 [some (.ref l1), some (.ref l2), some (.ref l3), some (.ref l4), some (.int l5), some (.int l6), some (.int l7), o8] [] (n, sl, f) Q := by
  refine w_aload_n cd_202_849 rfl ?_
  refine w_iconst (v := 0) cd_202_850 (by decide) ?_
  refine w_laload cd_202_851 h10 h11 h12 ?_
  refine w_iload cd_202_852 rfl ?_
  refine w_i2l cd_202_854 ?_
  refine w_lcmp cd_202_855 ?_
  exact w_ifeq cd_202_856 (by decide) h13 h14
theorem b_202_859 {d : Nat} {Q : (Option Value ⊕ Nat) → mi_H → Prop} (n sl : Nat) (f : Nat → mi_C) {l1 : Nat} {l2 : Nat} {l3 : Nat} {l4 : Nat} {l5 : Int32} {l6 : Int32} {l7 : Int32} {o8 : Option Value} (h9 : Q (.inl (some (.int 0))) (n, sl, f)) : mi_W d 202 859 [some (.ref l1), some (.ref l2), some (.ref l3), some (.ref l4), some (.int l5), some (.int l6), some (.int l7), o8] [] (n, sl, f) Q := by
  refine w_iconst (v := 0) cd_202_859 (by decide) ?_
  exact w_ireturn_z cd_202_860 (by decide +kernel) (by decide) h9
theorem b_202_861 {d : Nat} {Q : (Option Value ⊕ Nat) → mi_H → Prop} (n sl : Nat) (f : Nat → mi_C) {l1 : Nat} {l2 : Nat} {l3 : Nat} {l4 : Nat} {l5 : Int32} {l6 : Int32} {l7 : Int32} {o8 : Option Value} (h9 : mi_W d 202 1165 [some (.ref l1), some (.ref l2), some (.ref l3), some (.ref l4), some (.int l5), some (.int l6), some (.int l7), o8] [] (n, sl, f) Q) : mi_W d 202 861 [some (.ref l1), some (.ref l2), some (.ref l3), some (.ref l4), some (.int l5), some (.int l6), some (.int l7), o8] [] (n, sl, f) Q := by
  exact w_goto cd_202_861 (by decide) h9
theorem b_202_864 {d : Nat} {Q : (Option Value ⊕ Nat) → mi_H → Prop} (n sl : Nat) (f : Nat → mi_C) {l1 : Nat} {l2 : Nat} {l3 : Nat} {l4 : Nat} {l5 : Int32} {o6 : Option Value} {o7 : Option Value} {o8 : Option Value} (m9 i9 : Nat) (g9 : Nat → Int32) (h10 : f l1 = .inl (0, m9, .inl g9)) (h11 : l1 < n ∨ l1 = mi_SC) (h12 : mi_ix (l5 + 1) m9 i9) (h13 : mi_W d 113 0 (mi_en 4 [.ref l2, .int (g9 i9), .ref l4]) [] (n, sl, f) (mi_Kc d 202 872 [some (.ref l1), some (.ref l2), some (.ref l3), some (.ref l4), some (.int l5), o6, o7, o8] [] Q)) : mi_W (d + 1) 202 864 [some (.ref l1), some (.ref l2), some (.ref l3), some (.ref l4), some (.int l5), o6, o7, o8] [] (n, sl, f) Q := by
  refine w_aload_n cd_202_864 rfl ?_
  refine w_aload_n cd_202_865 rfl ?_
  refine w_iload cd_202_866 rfl ?_
  refine w_iconst (v := 1) cd_202_868 (by decide) ?_
  refine w_iadd cd_202_869 ?_
  refine w_iaload cd_202_870 h10 h11 h12 ?_
  refine w_aload_n cd_202_871 rfl ?_
  exact w_invokestatic cd_202_872 (show mt_m 18 112 = some (113, 4) by decide +kernel) (by decide) (rest := []) rfl (as := [.ref l2, .int (g9 i9), .ref l4]) rfl ⟨Nat.le_of_ble_eq_true rfl, Nat.le_of_ble_eq_true rfl, Nat.le_of_ble_eq_true rfl⟩ h13
theorem b_202_875 {d : Nat} {Q : (Option Value ⊕ Nat) → mi_H → Prop} (n sl : Nat) (f : Nat → mi_C) {l1 : Nat} {l2 : Nat} {l3 : Nat} {l4 : Nat} {l5 : Int32} {o6 : Option Value} {o7 : Option Value} {o8 : Option Value} {s9 : Int32} (m10 i10 : Nat) (g10 : Nat → Int32) {fs14 : List Value} (h11 : f l1 = .inl (0, m10, .inl g10)) (h12 : l1 < n ∨ l1 = mi_SC) (h13 : mi_ix (l5 + 1) m10 i10) (h15 : f l3 = .inr (12, fs14)) (h16 : l3 < n) (h17 : mi_W d 190 0 (mi_en 2 [.ref l3, .int (g10 i10)]) [] (n, sl, f) (mi_Kc d 202 884 [some (.ref l1), some (.ref l2), some (.ref l3), some (.ref l4), some (.int l5), some (.int s9), o7, o8] [] Q)) : mi_W (d + 1) 202 875 [some (.ref l1), some (.ref l2), some (.ref l3), some (.ref l4), some (.int l5), o6, o7, o8] [.int s9] (n, sl, f) Q := by
  refine w_istore (ls' := [some (.ref l1), some (.ref l2), some (.ref l3), some (.ref l4), some (.int l5), some (.int s9), o7, o8]) cd_202_875 (Nat.le_of_ble_eq_true rfl) rfl ?_
  refine w_aload_n cd_202_877 rfl ?_
  refine w_aload_n cd_202_878 rfl ?_
  refine w_iload cd_202_879 rfl ?_
  refine w_iconst (v := 1) cd_202_881 (by decide) ?_
  refine w_iadd cd_202_882 ?_
  refine w_iaload cd_202_883 h11 h12 h13 ?_
  exact w_invokevirtual cd_202_884 (show mt_m 18 114 = some (190, 0) by decide +kernel) (rest := []) rfl (as := [.ref l3, .int (g10 i10)]) rfl h15 (Or.inl h16) ⟨Nat.le_of_ble_eq_true rfl, Nat.le_of_ble_eq_true rfl, Nat.le_of_ble_eq_true rfl⟩ h17
theorem b_202_887 {d : Nat} {Q : (Option Value ⊕ Nat) → mi_H → Prop} (n sl : Nat) (f : Nat → mi_C) {l1 : Nat} {l2 : Nat} {l3 : Nat} {l4 : Nat} {l5 : Int32} {l6 : Int32} {o7 : Option Value} {o8 : Option Value} {s9 : Int64} {fs10 : List Value} (h11 : f l3 = .inr (12, fs10)) (h12 : l3 < n) (h13 : mi_W d 136 0 (mi_en 1 [.ref l3]) [] (n, sl, f) (mi_Kc d 202 890 [some (.ref l1), some (.ref l2), some (.ref l3), some (.ref l4), some (.int l5), some (.int l6), some (.long s9), none] [] Q)) : mi_W (d + 1) 202 887 [some (.ref l1), some (.ref l2), some (.ref l3), some (.ref l4), some (.int l5), some (.int l6), o7, o8] [.long s9] (n, sl, f) Q := by
  refine w_lstore (ls' := [some (.ref l1), some (.ref l2), some (.ref l3), some (.ref l4), some (.int l5), some (.int l6), some (.long s9), none]) cd_202_887 (Nat.le_of_ble_eq_true rfl) rfl ?_
  refine w_aload_n cd_202_889 rfl ?_
  exact w_invokevirtual cd_202_890 (show mt_m 18 75 = some (136, 0) by decide +kernel) (rest := []) rfl (as := [.ref l3]) rfl h11 (Or.inl h12) ⟨Nat.le_of_ble_eq_true rfl, Nat.le_of_ble_eq_true rfl, Nat.le_of_ble_eq_true rfl⟩ h13
theorem b_202_893 {d : Nat} {Q : (Option Value ⊕ Nat) → mi_H → Prop} (n sl : Nat) (f : Nat → mi_C) {l1 : Nat} {l2 : Nat} {l3 : Nat} {l4 : Nat} {l5 : Int32} {l6 : Int32} {l7 : Int64} {s8 : Int32} (h9 : s8 = l6 → mi_W d 202 900 [some (.ref l1), some (.ref l2), some (.ref l3), some (.ref l4), some (.int l5), some (.int l6), some (.long l7), none] [] (n, sl, f) Q) (h10 : ¬ (s8 = l6) → mi_W d 202 898 [some (.ref l1), some (.ref l2), some (.ref l3), some (.ref l4), some (.int l5), some (.int l6), some (.long l7), none] [] (n, sl, f) Q) : mi_W d 202 893 [some (.ref l1), some (.ref l2), some (.ref l3), some (.ref l4), some (.int l5), some (.int l6), some (.long l7), none] [.int s8] (n, sl, f) Q := by
  refine w_iload cd_202_893 rfl ?_
  exact w_if_icmpeq cd_202_895 (by decide) h9 h10
theorem b_202_898 {d : Nat} {Q : (Option Value ⊕ Nat) → mi_H → Prop} (n sl : Nat) (f : Nat → mi_C) {l1 : Nat} {l2 : Nat} {l3 : Nat} {l4 : Nat} {l5 : Int32} {l6 : Int32} {l7 : Int64} (h8 : Q (.inl (some (.int 0))) (n, sl, f)) : mi_W d 202 898 [some (.ref l1), some (.ref l2), some (.ref l3), some (.ref l4), some (.int l5), some (.int l6), some (.long l7), none] [] (n, sl, f) Q := by
  refine w_iconst (v := 0) cd_202_898 (by decide) ?_
  exact w_ireturn_z cd_202_899 (by decide +kernel) (by decide) h8
theorem b_202_900 {d : Nat} {Q : (Option Value ⊕ Nat) → mi_H → Prop} (n sl : Nat) (f : Nat → mi_C) {l1 : Nat} {l2 : Nat} {l3 : Nat} {l4 : Nat} {l5 : Int32} {l6 : Int32} {l7 : Int64} (h8 : ¬ l6 = (0 : Int32) → mi_W d 202 916 [some (.ref l1), some (.ref l2), some (.ref l3), some (.ref l4), some (.int l5), some (.int l6), some (.long l7), none] [] (n, sl, f) Q) (h9 : ¬ (¬ l6 = (0 : Int32)) → mi_W d 202 905 [some (.ref l1), some (.ref l2), some (.ref l3), some (.ref l4), some (.int l5), some (.int l6), some (.long l7), none] [] (n, sl, f) Q) : mi_W d 202 900 [some (.ref l1), some (.ref l2), some (.ref l3), some (.ref l4), some (.int l5), some (.int l6), some (.long l7), none] [] (n, sl, f) Q := by
  refine w_iload cd_202_900 rfl ?_
  exact w_ifne cd_202_902 (by decide) h8 h9
theorem b_202_905 {d : Nat} {Q : (Option Value ⊕ Nat) → mi_H → Prop} (n sl : Nat) (f : Nat → mi_C) {l1 : Nat} {l2 : Nat} {l3 : Nat} {l4 : Nat} {l5 : Int32} {l6 : Int32} {l7 : Int64} (m8 i8 : Nat) (g8 : Nat → Int64) (h9 : f l4 = .inl (3, m8, .inr (.inl g8))) (h10 : l4 < n) (h11 : mi_ix 0 m8 i8) (h12 : (lg_cmp (g8 i8) l7) = (0 : Int32) → mi_W d 202 916 [some (.ref l1), some (.ref l2), some (.ref l3), some (.ref l4), some (.int l5), some (.int l6), some (.long l7), none] [] (n, sl, f) Q) (h13 : ¬ ((lg_cmp (g8 i8) l7) = (0 : Int32)) → mi_W d 202 914 [some (.ref l1), some (.ref l2), some (.ref l3), some (.ref l4), some (.int l5), some (.int l6), some (.long l7), none] [] (n, sl, f) Q) : mi_W d 202 905 [some (.ref l1), some (.ref l2), some (.ref l3), some (.ref l4), some (.int l5), some (.int l6), some (.long l7), none] [] (n, sl, f) Q := by
  refine w_aload_n cd_202_905 rfl ?_
  refine w_iconst (v := 0) cd_202_906 (by decide) ?_
  refine w_laload cd_202_907 h9 h10 h11 ?_
  refine w_lload cd_202_908 rfl ?_
  refine w_lcmp cd_202_910 ?_
  exact w_ifeq cd_202_911 (by decide) h12 h13
theorem b_202_914 {d : Nat} {Q : (Option Value ⊕ Nat) → mi_H → Prop} (n sl : Nat) (f : Nat → mi_C) {l1 : Nat} {l2 : Nat} {l3 : Nat} {l4 : Nat} {l5 : Int32} {l6 : Int32} {l7 : Int64} (h8 : Q (.inl (some (.int 0))) (n, sl, f)) : mi_W d 202 914 [some (.ref l1), some (.ref l2), some (.ref l3), some (.ref l4), some (.int l5), some (.int l6), some (.long l7), none] [] (n, sl, f) Q := by
  refine w_iconst (v := 0) cd_202_914 (by decide) ?_
  exact w_ireturn_z cd_202_915 (by decide +kernel) (by decide) h8
theorem b_202_916 {d : Nat} {Q : (Option Value ⊕ Nat) → mi_H → Prop} (n sl : Nat) (f : Nat → mi_C) {l1 : Nat} {l2 : Nat} {l3 : Nat} {l4 : Nat} {l5 : Int32} {l6 : Int32} {l7 : Int64} (h8 : mi_W d 202 1165 [some (.ref l1), some (.ref l2), some (.ref l3), some (.ref l4), some (.int l5), some (.int l6), some (.long l7), none] [] (n, sl, f) Q) : mi_W d 202 916 [some (.ref l1), some (.ref l2), some (.ref l3), some (.ref l4), some (.int l5), some (.int l6), some (.long l7), none] [] (n, sl, f) Q := by
  exact w_goto cd_202_916 (by decide) h8
theorem b_202_919 {d : Nat} {Q : (Option Value ⊕ Nat) → mi_H → Prop} (n sl : Nat) (f : Nat → mi_C) {l1 : Nat} {l2 : Nat} {l3 : Nat} {l4 : Nat} {l5 : Int32} {o6 : Option Value} {o7 : Option Value} {o8 : Option Value} (m9 i9 : Nat) (g9 : Nat → Int32) (m13 i13 : Nat) (g13 : Nat → Int32) (m17 i17 : Nat) (g17 : Nat → Int32) (h10 : f l1 = .inl (0, m9, .inl g9)) (h11 : l1 < n ∨ l1 = mi_SC) (h12 : mi_ix (l5 + 1) m9 i9) (h14 : f l1 = .inl (0, m13, .inl g13)) (h15 : l1 < n ∨ l1 = mi_SC) (h16 : mi_ix (l5 + 2) m13 i13) (h18 : f l1 = .inl (0, m17, .inl g17)) (h19 : l1 < n ∨ l1 = mi_SC) (h20 : mi_ix (l5 + 3) m17 i17) (h21 : mi_W d 115 0 (mi_en 6 [.ref l2, .int (g9 i9), .int (g13 i13), .int (g17 i17), .ref l4]) [] (n, sl, f) (mi_Kc d 202 939 [some (.ref l1), some (.ref l2), some (.ref l3), some (.ref l4), some (.int l5), o6, o7, o8] [] Q)) : mi_W (d + 1) 202 919 [some (.ref l1), some (.ref l2), some (.ref l3), some (.ref l4), some (.int l5), o6, o7, o8] [] (n, sl, f) Q := by
  refine w_aload_n cd_202_919 rfl ?_
  refine w_aload_n cd_202_920 rfl ?_
  refine w_iload cd_202_921 rfl ?_
  refine w_iconst (v := 1) cd_202_923 (by decide) ?_
  refine w_iadd cd_202_924 ?_
  refine w_iaload cd_202_925 h10 h11 h12 ?_
  refine w_aload_n cd_202_926 rfl ?_
  refine w_iload cd_202_927 rfl ?_
  refine w_iconst (v := 2) cd_202_929 (by decide) ?_
  refine w_iadd cd_202_930 ?_
  refine w_iaload cd_202_931 h14 h15 h16 ?_
  refine w_aload_n cd_202_932 rfl ?_
  refine w_iload cd_202_933 rfl ?_
  refine w_iconst (v := 3) cd_202_935 (by decide) ?_
  refine w_iadd cd_202_936 ?_
  refine w_iaload cd_202_937 h18 h19 h20 ?_
  refine w_aload_n cd_202_938 rfl ?_
  exact w_invokestatic cd_202_939 (show mt_m 18 115 = some (115, 4) by decide +kernel) (by decide) (rest := []) rfl (as := [.ref l2, .int (g9 i9), .int (g13 i13), .int (g17 i17), .ref l4]) rfl ⟨Nat.le_of_ble_eq_true rfl, Nat.le_of_ble_eq_true rfl, Nat.le_of_ble_eq_true rfl⟩ h21
theorem b_202_942 {d : Nat} {Q : (Option Value ⊕ Nat) → mi_H → Prop} (n sl : Nat) (f : Nat → mi_C) {l1 : Nat} {l2 : Nat} {l3 : Nat} {l4 : Nat} {l5 : Int32} {o6 : Option Value} {o7 : Option Value} {o8 : Option Value} {s9 : Int32} (m10 i10 : Nat) (g10 : Nat → Int32) (m14 i14 : Nat) (g14 : Nat → Int32) (m18 i18 : Nat) (g18 : Nat → Int32) {fs22 : List Value} (h11 : f l1 = .inl (0, m10, .inl g10)) (h12 : l1 < n ∨ l1 = mi_SC) (h13 : mi_ix (l5 + 1) m10 i10) (h15 : f l1 = .inl (0, m14, .inl g14)) (h16 : l1 < n ∨ l1 = mi_SC) (h17 : mi_ix (l5 + 2) m14 i14) (h19 : f l1 = .inl (0, m18, .inl g18)) (h20 : l1 < n ∨ l1 = mi_SC) (h21 : mi_ix (l5 + 3) m18 i18) (h23 : f l3 = .inr (12, fs22)) (h24 : l3 < n) (h25 : mi_W d 191 0 (mi_en 4 [.ref l3, .int (g10 i10), .int (g14 i14), .int (g18 i18)]) [] (n, sl, f) (mi_Kc d 202 963 [some (.ref l1), some (.ref l2), some (.ref l3), some (.ref l4), some (.int l5), some (.int s9), o7, o8] [] Q)) : mi_W (d + 1) 202 942 [some (.ref l1), some (.ref l2), some (.ref l3), some (.ref l4), some (.int l5), o6, o7, o8] [.int s9] (n, sl, f) Q := by
  refine w_istore (ls' := [some (.ref l1), some (.ref l2), some (.ref l3), some (.ref l4), some (.int l5), some (.int s9), o7, o8]) cd_202_942 (Nat.le_of_ble_eq_true rfl) rfl ?_
  refine w_aload_n cd_202_944 rfl ?_
  refine w_aload_n cd_202_945 rfl ?_
  refine w_iload cd_202_946 rfl ?_
  refine w_iconst (v := 1) cd_202_948 (by decide) ?_
  refine w_iadd cd_202_949 ?_
  refine w_iaload cd_202_950 h11 h12 h13 ?_
  refine w_aload_n cd_202_951 rfl ?_
  refine w_iload cd_202_952 rfl ?_
  refine w_iconst (v := 2) cd_202_954 (by decide) ?_
  refine w_iadd cd_202_955 ?_
  refine w_iaload cd_202_956 h15 h16 h17 ?_
  refine w_aload_n cd_202_957 rfl ?_
  refine w_iload cd_202_958 rfl ?_
  refine w_iconst (v := 3) cd_202_960 (by decide) ?_
  refine w_iadd cd_202_961 ?_
  refine w_iaload cd_202_962 h19 h20 h21 ?_
  exact w_invokevirtual cd_202_963 (show mt_m 18 118 = some (191, 0) by decide +kernel) (rest := []) rfl (as := [.ref l3, .int (g10 i10), .int (g14 i14), .int (g18 i18)]) rfl h23 (Or.inl h24) ⟨Nat.le_of_ble_eq_true rfl, Nat.le_of_ble_eq_true rfl, Nat.le_of_ble_eq_true rfl⟩ h25
theorem b_202_966 {d : Nat} {Q : (Option Value ⊕ Nat) → mi_H → Prop} (n sl : Nat) (f : Nat → mi_C) {l1 : Nat} {l2 : Nat} {l3 : Nat} {l4 : Nat} {l5 : Int32} {l6 : Int32} {o7 : Option Value} {o8 : Option Value} {s9 : Int64} {fs10 : List Value} (h11 : f l3 = .inr (12, fs10)) (h12 : l3 < n) (h13 : mi_W d 136 0 (mi_en 1 [.ref l3]) [] (n, sl, f) (mi_Kc d 202 969 [some (.ref l1), some (.ref l2), some (.ref l3), some (.ref l4), some (.int l5), some (.int l6), some (.long s9), none] [] Q)) : mi_W (d + 1) 202 966 [some (.ref l1), some (.ref l2), some (.ref l3), some (.ref l4), some (.int l5), some (.int l6), o7, o8] [.long s9] (n, sl, f) Q := by
  refine w_lstore (ls' := [some (.ref l1), some (.ref l2), some (.ref l3), some (.ref l4), some (.int l5), some (.int l6), some (.long s9), none]) cd_202_966 (Nat.le_of_ble_eq_true rfl) rfl ?_
  refine w_aload_n cd_202_968 rfl ?_
  exact w_invokevirtual cd_202_969 (show mt_m 18 75 = some (136, 0) by decide +kernel) (rest := []) rfl (as := [.ref l3]) rfl h11 (Or.inl h12) ⟨Nat.le_of_ble_eq_true rfl, Nat.le_of_ble_eq_true rfl, Nat.le_of_ble_eq_true rfl⟩ h13
theorem b_202_972 {d : Nat} {Q : (Option Value ⊕ Nat) → mi_H → Prop} (n sl : Nat) (f : Nat → mi_C) {l1 : Nat} {l2 : Nat} {l3 : Nat} {l4 : Nat} {l5 : Int32} {l6 : Int32} {l7 : Int64} {s8 : Int32} (h9 : s8 = l6 → mi_W d 202 979 [some (.ref l1), some (.ref l2), some (.ref l3), some (.ref l4), some (.int l5), some (.int l6), some (.long l7), none] [] (n, sl, f) Q) (h10 : ¬ (s8 = l6) → mi_W d 202 977 [some (.ref l1), some (.ref l2), some (.ref l3), some (.ref l4), some (.int l5), some (.int l6), some (.long l7), none] [] (n, sl, f) Q) : mi_W d 202 972 [some (.ref l1), some (.ref l2), some (.ref l3), some (.ref l4), some (.int l5), some (.int l6), some (.long l7), none] [.int s8] (n, sl, f) Q := by
  refine w_iload cd_202_972 rfl ?_
  exact w_if_icmpeq cd_202_974 (by decide) h9 h10
theorem b_202_977 {d : Nat} {Q : (Option Value ⊕ Nat) → mi_H → Prop} (n sl : Nat) (f : Nat → mi_C) {l1 : Nat} {l2 : Nat} {l3 : Nat} {l4 : Nat} {l5 : Int32} {l6 : Int32} {l7 : Int64} (h8 : Q (.inl (some (.int 0))) (n, sl, f)) : mi_W d 202 977 [some (.ref l1), some (.ref l2), some (.ref l3), some (.ref l4), some (.int l5), some (.int l6), some (.long l7), none] [] (n, sl, f) Q := by
  refine w_iconst (v := 0) cd_202_977 (by decide) ?_
  exact w_ireturn_z cd_202_978 (by decide +kernel) (by decide) h8
theorem b_202_979 {d : Nat} {Q : (Option Value ⊕ Nat) → mi_H → Prop} (n sl : Nat) (f : Nat → mi_C) {l1 : Nat} {l2 : Nat} {l3 : Nat} {l4 : Nat} {l5 : Int32} {l6 : Int32} {l7 : Int64} (h8 : ¬ l6 = (0 : Int32) → mi_W d 202 995 [some (.ref l1), some (.ref l2), some (.ref l3), some (.ref l4), some (.int l5), some (.int l6), some (.long l7), none] [] (n, sl, f) Q) (h9 : ¬ (¬ l6 = (0 : Int32)) → mi_W d 202 984 [some (.ref l1), some (.ref l2), some (.ref l3), some (.ref l4), some (.int l5), some (.int l6), some (.long l7), none] [] (n, sl, f) Q) : mi_W d 202 979 [some (.ref l1), some (.ref l2), some (.ref l3), some (.ref l4), some (.int l5), some (.int l6), some (.long l7), none] [] (n, sl, f) Q := by
  refine w_iload cd_202_979 rfl ?_
  exact w_ifne cd_202_981 (by decide) h8 h9
theorem b_202_984 {d : Nat} {Q : (Option Value ⊕ Nat) → mi_H → Prop} (n sl : Nat) (f : Nat → mi_C) {l1 : Nat} {l2 : Nat} {l3 : Nat} {l4 : Nat} {l5 : Int32} {l6 : Int32} {l7 : Int64} (m8 i8 : Nat) (g8 : Nat → Int64) (h9 : f l4 = .inl (3, m8, .inr (.inl g8))) (h10 : l4 < n) (h11 : mi_ix 0 m8 i8) (h12 : (lg_cmp (g8 i8) l7) = (0 : Int32) → mi_W d 202 995 [some (.ref l1), some (.ref l2), some (.ref l3), some (.ref l4), some (.int l5), some (.int l6), some (.long l7), none] [] (n, sl, f) Q) (h13 : ¬ ((lg_cmp (g8 i8) l7) = (0 : Int32)) → mi_W d 202 993 [some (.ref l1), some (.ref l2), some (.ref l3), some (.ref l4), some (.int l5), some (.int l6), some (.long l7), none] [] (n, sl, f) Q) : mi_W d 202 984 [some (.ref l1), some (.ref l2), some (.ref l3), some (.ref l4), some (.int l5), some (.int l6), some (.long l7), none] [] (n, sl, f) Q := by
  refine w_aload_n cd_202_984 rfl ?_
  refine w_iconst (v := 0) cd_202_985 (by decide) ?_
  refine w_laload cd_202_986 h9 h10 h11 ?_
  refine w_lload cd_202_987 rfl ?_
  refine w_lcmp cd_202_989 ?_
  exact w_ifeq cd_202_990 (by decide) h12 h13
theorem b_202_993 {d : Nat} {Q : (Option Value ⊕ Nat) → mi_H → Prop} (n sl : Nat) (f : Nat → mi_C) {l1 : Nat} {l2 : Nat} {l3 : Nat} {l4 : Nat} {l5 : Int32} {l6 : Int32} {l7 : Int64} (h8 : Q (.inl (some (.int 0))) (n, sl, f)) : mi_W d 202 993 [some (.ref l1), some (.ref l2), some (.ref l3), some (.ref l4), some (.int l5), some (.int l6), some (.long l7), none] [] (n, sl, f) Q := by
  refine w_iconst (v := 0) cd_202_993 (by decide) ?_
  exact w_ireturn_z cd_202_994 (by decide +kernel) (by decide) h8
theorem b_202_995 {d : Nat} {Q : (Option Value ⊕ Nat) → mi_H → Prop} (n sl : Nat) (f : Nat → mi_C) {l1 : Nat} {l2 : Nat} {l3 : Nat} {l4 : Nat} {l5 : Int32} {l6 : Int32} {l7 : Int64} (h8 : mi_W d 202 1165 [some (.ref l1), some (.ref l2), some (.ref l3), some (.ref l4), some (.int l5), some (.int l6), some (.long l7), none] [] (n, sl, f) Q) : mi_W d 202 995 [some (.ref l1), some (.ref l2), some (.ref l3), some (.ref l4), some (.int l5), some (.int l6), some (.long l7), none] [] (n, sl, f) Q := by
  exact w_goto cd_202_995 (by decide) h8
theorem b_202_998 {d : Nat} {Q : (Option Value ⊕ Nat) → mi_H → Prop} (n sl : Nat) (f : Nat → mi_C) {l1 : Nat} {l2 : Nat} {l3 : Nat} {l4 : Nat} {l5 : Int32} {o6 : Option Value} {o7 : Option Value} {o8 : Option Value} (h9 : mi_W d 117 0 (mi_en 3 [.ref l2, .ref l4]) [] (n, sl, f) (mi_Kc d 202 1000 [some (.ref l1), some (.ref l2), some (.ref l3), some (.ref l4), some (.int l5), o6, o7, o8] [] Q)) : mi_W (d + 1) 202 998 [some (.ref l1), some (.ref l2), some (.ref l3), some (.ref l4), some (.int l5), o6, o7, o8] [] (n, sl, f) Q := by
  refine w_aload_n cd_202_998 rfl ?_
  refine w_aload_n cd_202_999 rfl ?_
  exact w_invokestatic cd_202_1000 (show mt_m 18 119 = some (117, 4) by decide +kernel) (by decide) (rest := []) rfl (as := [.ref l2, .ref l4]) rfl ⟨Nat.le_of_ble_eq_true rfl, Nat.le_of_ble_eq_true rfl, Nat.le_of_ble_eq_true rfl⟩ h9
theorem b_202_1003 {d : Nat} {Q : (Option Value ⊕ Nat) → mi_H → Prop} (n sl : Nat) (f : Nat → mi_C) {l1 : Nat} {l2 : Nat} {l3 : Nat} {l4 : Nat} {l5 : Int32} {o6 : Option Value} {o7 : Option Value} {o8 : Option Value} {s9 : Int32} {fs10 : List Value} (h11 : f l3 = .inr (12, fs10)) (h12 : l3 < n) (h13 : mi_W d 192 0 (mi_en 4 [.ref l3]) [] (n, sl, f) (mi_Kc d 202 1006 [some (.ref l1), some (.ref l2), some (.ref l3), some (.ref l4), some (.int l5), some (.int s9), o7, o8] [] Q)) : mi_W (d + 1) 202 1003 [some (.ref l1), some (.ref l2), some (.ref l3), some (.ref l4), some (.int l5), o6, o7, o8] [.int s9] (n, sl, f) Q := by
  refine w_istore (ls' := [some (.ref l1), some (.ref l2), some (.ref l3), some (.ref l4), some (.int l5), some (.int s9), o7, o8]) cd_202_1003 (Nat.le_of_ble_eq_true rfl) rfl ?_
  refine w_aload_n cd_202_1005 rfl ?_
  exact w_invokevirtual cd_202_1006 (show mt_m 18 121 = some (192, 0) by decide +kernel) (rest := []) rfl (as := [.ref l3]) rfl h11 (Or.inl h12) ⟨Nat.le_of_ble_eq_true rfl, Nat.le_of_ble_eq_true rfl, Nat.le_of_ble_eq_true rfl⟩ h13
theorem b_202_1009 {d : Nat} {Q : (Option Value ⊕ Nat) → mi_H → Prop} (n sl : Nat) (f : Nat → mi_C) {l1 : Nat} {l2 : Nat} {l3 : Nat} {l4 : Nat} {l5 : Int32} {l6 : Int32} {o7 : Option Value} {o8 : Option Value} {s9 : Int32} {fs10 : List Value} (h11 : f l3 = .inr (12, fs10)) (h12 : l3 < n) (h13 : mi_W d 136 0 (mi_en 1 [.ref l3]) [] (n, sl, f) (mi_Kc d 202 1012 [some (.ref l1), some (.ref l2), some (.ref l3), some (.ref l4), some (.int l5), some (.int l6), some (.int s9), o8] [] Q)) : mi_W (d + 1) 202 1009 [some (.ref l1), some (.ref l2), some (.ref l3), some (.ref l4), some (.int l5), some (.int l6), o7, o8] [.int s9] (n, sl, f) Q := by
  refine w_istore (ls' := [some (.ref l1), some (.ref l2), some (.ref l3), some (.ref l4), some (.int l5), some (.int l6), some (.int s9), o8]) cd_202_1009 (Nat.le_of_ble_eq_true rfl) rfl ?_
  refine w_aload_n cd_202_1011 rfl ?_
  exact w_invokevirtual cd_202_1012 (show mt_m 18 75 = some (136, 0) by decide +kernel) (rest := []) rfl (as := [.ref l3]) rfl h11 (Or.inl h12) ⟨Nat.le_of_ble_eq_true rfl, Nat.le_of_ble_eq_true rfl, Nat.le_of_ble_eq_true rfl⟩ h13
theorem b_202_1015 {d : Nat} {Q : (Option Value ⊕ Nat) → mi_H → Prop} (n sl : Nat) (f : Nat → mi_C) {l1 : Nat} {l2 : Nat} {l3 : Nat} {l4 : Nat} {l5 : Int32} {l6 : Int32} {l7 : Int32} {o8 : Option Value} {s9 : Int32} (h10 : s9 = l6 → mi_W d 202 1022 [some (.ref l1), some (.ref l2), some (.ref l3), some (.ref l4), some (.int l5), some (.int l6), some (.int l7), o8] [] (n, sl, f) Q) (h11 : ¬ (s9 = l6) → mi_W d 202 1020 [some (.ref l1), some (.ref l2), some (.ref l3), some (.ref l4), some (.int l5), some (.int l6), some (.int l7), o8] [] (n, sl, f) Q) : mi_W d 202 1015 [some (.ref l1), some (.ref l2), some (.ref l3), some (.ref l4), some (.int l5), some (.int l6), some (.int l7), o8] [.int s9] (n, sl, f) Q := by
  refine w_iload cd_202_1015 rfl ?_
  exact w_if_icmpeq cd_202_1017 (by decide) h10 h11
theorem b_202_1020 {d : Nat} {Q : (Option Value ⊕ Nat) → mi_H → Prop} (n sl : Nat) (f : Nat → mi_C) {l1 : Nat} {l2 : Nat} {l3 : Nat} {l4 : Nat} {l5 : Int32} {l6 : Int32} {l7 : Int32} {o8 : Option Value} (h9 : Q (.inl (some (.int 0))) (n, sl, f)) : mi_W d 202 1020 [some (.ref l1), some (.ref l2), some (.ref l3), some (.ref l4), some (.int l5), some (.int l6), some (.int l7), o8] [] (n, sl, f) Q := by
  refine w_iconst (v := 0) cd_202_1020 (by decide) ?_
  exact w_ireturn_z cd_202_1021 (by decide +kernel) (by decide) h9
theorem b_202_1022 {d : Nat} {Q : (Option Value ⊕ Nat) → mi_H → Prop} (n sl : Nat) (f : Nat → mi_C) {l1 : Nat} {l2 : Nat} {l3 : Nat} {l4 : Nat} {l5 : Int32} {l6 : Int32} {l7 : Int32} {o8 : Option Value} (h9 : ¬ l6 = (0 : Int32) → mi_W d 202 1039 [some (.ref l1), some (.ref l2), some (.ref l3), some (.ref l4), some (.int l5), some (.int l6), some (.int l7), o8] [] (n, sl, f) Q) (h10 : ¬ (¬ l6 = (0 : Int32)) → mi_W d 202 1027 [some (.ref l1), some (.ref l2), some (.ref l3), some (.ref l4), some (.int l5), some (.int l6), some (.int l7), o8] [] (n, sl, f) Q) : mi_W d 202 1022 [some (.ref l1), some (.ref l2), some (.ref l3), some (.ref l4), some (.int l5), some (.int l6), some (.int l7), o8] [] (n, sl, f) Q := by
  refine w_iload cd_202_1022 rfl ?_
  exact w_ifne cd_202_1024 (by decide) h9 h10
theorem b_202_1027 {d : Nat} {Q : (Option Value ⊕ Nat) → mi_H → Prop} (n sl : Nat) (f : Nat → mi_C) {l1 : Nat} {l2 : Nat} {l3 : Nat} {l4 : Nat} {l5 : Int32} {l6 : Int32} {l7 : Int32} {o8 : Option Value} (m9 i9 : Nat) (g9 : Nat → Int64) (h10 : f l4 = .inl (3, m9, .inr (.inl g9))) (h11 : l4 < n) (h12 : mi_ix 0 m9 i9) (h13 : (lg_cmp (g9 i9) ((l7 : Int32).toInt64)) = (0 : Int32) → mi_W d 202 1039 [some (.ref l1), some (.ref l2), some (.ref l3), some (.ref l4), some (.int l5), some (.int l6), some (.int l7), o8] [] (n, sl, f) Q) (h14 : ¬ ((lg_cmp (g9 i9) ((l7 : Int32).toInt64)) = (0 : Int32)) → mi_W d 202 1037 [some (.ref l1), some (.ref l2), some (.ref l3), some (.ref l4), some (.int l5), some (.int l6), some (.int l7), o8] [] (n, sl, f) Q) : mi_W d 202 1027 [some (.ref l1), some (.ref l2), some (.ref l3), some (.ref l4), some (.int l5), some (.int l6), some (.int l7), o8] [] (n, sl, f) Q := by
  refine w_aload_n cd_202_1027 rfl ?_
  refine w_iconst (v := 0) cd_202_1028 (by decide) ?_
  refine w_laload cd_202_1029 h10 h11 h12 ?_
  refine w_iload cd_202_1030 rfl ?_
  refine w_i2l cd_202_1032 ?_
  refine w_lcmp cd_202_1033 ?_
  exact w_ifeq cd_202_1034 (by decide) h13 h14
theorem b_202_1037 {d : Nat} {Q : (Option Value ⊕ Nat) → mi_H → Prop} (n sl : Nat) (f : Nat → mi_C) {l1 : Nat} {l2 : Nat} {l3 : Nat} {l4 : Nat} {l5 : Int32} {l6 : Int32} {l7 : Int32} {o8 : Option Value} (h9 : Q (.inl (some (.int 0))) (n, sl, f)) : mi_W d 202 1037 [some (.ref l1), some (.ref l2), some (.ref l3), some (.ref l4), some (.int l5), some (.int l6), some (.int l7), o8] [] (n, sl, f) Q := by
  refine w_iconst (v := 0) cd_202_1037 (by decide) ?_
  exact w_ireturn_z cd_202_1038 (by decide +kernel) (by decide) h9
theorem b_202_1039 {d : Nat} {Q : (Option Value ⊕ Nat) → mi_H → Prop} (n sl : Nat) (f : Nat → mi_C) {l1 : Nat} {l2 : Nat} {l3 : Nat} {l4 : Nat} {l5 : Int32} {l6 : Int32} {l7 : Int32} {o8 : Option Value} (h9 : mi_W d 202 1165 [some (.ref l1), some (.ref l2), some (.ref l3), some (.ref l4), some (.int l5), some (.int l6), some (.int l7), o8] [] (n, sl, f) Q) : mi_W d 202 1039 [some (.ref l1), some (.ref l2), some (.ref l3), some (.ref l4), some (.int l5), some (.int l6), some (.int l7), o8] [] (n, sl, f) Q := by
  exact w_goto cd_202_1039 (by decide) h9
theorem b_202_1042 {d : Nat} {Q : (Option Value ⊕ Nat) → mi_H → Prop} (n sl : Nat) (f : Nat → mi_C) {l1 : Nat} {l2 : Nat} {l3 : Nat} {l4 : Nat} {l5 : Int32} {o6 : Option Value} {o7 : Option Value} {o8 : Option Value} (m9 i9 : Nat) (g9 : Nat → Int32) (m13 i13 : Nat) (g13 : Nat → Int32) (h10 : f l1 = .inl (0, m9, .inl g9)) (h11 : l1 < n ∨ l1 = mi_SC) (h12 : mi_ix (l5 + 1) m9 i9) (h14 : f l1 = .inl (0, m13, .inl g13)) (h15 : l1 < n ∨ l1 = mi_SC) (h16 : mi_ix (l5 + 2) m13 i13) (h17 : mi_W d 129 0 (mi_en 5 [.ref l2, .int (g9 i9), .int (g13 i13), .ref l4]) [] (n, sl, f) (mi_Kc d 202 1056 [some (.ref l1), some (.ref l2), some (.ref l3), some (.ref l4), some (.int l5), o6, o7, o8] [] Q)) : mi_W (d + 1) 202 1042 [some (.ref l1), some (.ref l2), some (.ref l3), some (.ref l4), some (.int l5), o6, o7, o8] [] (n, sl, f) Q := by
  refine w_aload_n cd_202_1042 rfl ?_
  refine w_aload_n cd_202_1043 rfl ?_
  refine w_iload cd_202_1044 rfl ?_
  refine w_iconst (v := 1) cd_202_1046 (by decide) ?_
  refine w_iadd cd_202_1047 ?_
  refine w_iaload cd_202_1048 h10 h11 h12 ?_
  refine w_aload_n cd_202_1049 rfl ?_
  refine w_iload cd_202_1050 rfl ?_
  refine w_iconst (v := 2) cd_202_1052 (by decide) ?_
  refine w_iadd cd_202_1053 ?_
  refine w_iaload cd_202_1054 h14 h15 h16 ?_
  refine w_aload_n cd_202_1055 rfl ?_
  exact w_invokestatic cd_202_1056 (show mt_m 18 122 = some (129, 4) by decide +kernel) (by decide) (rest := []) rfl (as := [.ref l2, .int (g9 i9), .int (g13 i13), .ref l4]) rfl ⟨Nat.le_of_ble_eq_true rfl, Nat.le_of_ble_eq_true rfl, Nat.le_of_ble_eq_true rfl⟩ h17
theorem b_202_1059 {d : Nat} {Q : (Option Value ⊕ Nat) → mi_H → Prop} (n sl : Nat) (f : Nat → mi_C) {l1 : Nat} {l2 : Nat} {l3 : Nat} {l4 : Nat} {l5 : Int32} {o6 : Option Value} {o7 : Option Value} {o8 : Option Value} {s9 : Int32} (m10 i10 : Nat) (g10 : Nat → Int32) (m14 i14 : Nat) (g14 : Nat → Int32) {fs18 : List Value} (h11 : f l1 = .inl (0, m10, .inl g10)) (h12 : l1 < n ∨ l1 = mi_SC) (h13 : mi_ix (l5 + 1) m10 i10) (h15 : f l1 = .inl (0, m14, .inl g14)) (h16 : l1 < n ∨ l1 = mi_SC) (h17 : mi_ix (l5 + 2) m14 i14) (h19 : f l3 = .inr (12, fs18)) (h20 : l3 < n) (h21 : mi_W d 200 0 (mi_en 3 [.ref l3, .int (g10 i10), .int (g14 i14)]) [] (n, sl, f) (mi_Kc d 202 1074 [some (.ref l1), some (.ref l2), some (.ref l3), some (.ref l4), some (.int l5), some (.int s9), o7, o8] [] Q)) : mi_W (d + 1) 202 1059 [some (.ref l1), some (.ref l2), some (.ref l3), some (.ref l4), some (.int l5), o6, o7, o8] [.int s9] (n, sl, f) Q := by
  refine w_istore (ls' := [some (.ref l1), some (.ref l2), some (.ref l3), some (.ref l4), some (.int l5), some (.int s9), o7, o8]) cd_202_1059 (Nat.le_of_ble_eq_true rfl) rfl ?_
  refine w_aload_n cd_202_1061 rfl ?_
  refine w_aload_n cd_202_1062 rfl ?_
  refine w_iload cd_202_1063 rfl ?_
  refine w_iconst (v := 1) cd_202_1065 (by decide) ?_
  refine w_iadd cd_202_1066 ?_
  refine w_iaload cd_202_1067 h11 h12 h13 ?_
  refine w_aload_n cd_202_1068 rfl ?_
  refine w_iload cd_202_1069 rfl ?_
  refine w_iconst (v := 2) cd_202_1071 (by decide) ?_
  refine w_iadd cd_202_1072 ?_
  refine w_iaload cd_202_1073 h15 h16 h17 ?_
  exact w_invokevirtual cd_202_1074 (show mt_m 18 124 = some (200, 0) by decide +kernel) (rest := []) rfl (as := [.ref l3, .int (g10 i10), .int (g14 i14)]) rfl h19 (Or.inl h20) ⟨Nat.le_of_ble_eq_true rfl, Nat.le_of_ble_eq_true rfl, Nat.le_of_ble_eq_true rfl⟩ h21
theorem b_202_1077 {d : Nat} {Q : (Option Value ⊕ Nat) → mi_H → Prop} (n sl : Nat) (f : Nat → mi_C) {l1 : Nat} {l2 : Nat} {l3 : Nat} {l4 : Nat} {l5 : Int32} {l6 : Int32} {o7 : Option Value} {o8 : Option Value} {s9 : Int64} {fs10 : List Value} (h11 : f l3 = .inr (12, fs10)) (h12 : l3 < n) (h13 : mi_W d 136 0 (mi_en 1 [.ref l3]) [] (n, sl, f) (mi_Kc d 202 1080 [some (.ref l1), some (.ref l2), some (.ref l3), some (.ref l4), some (.int l5), some (.int l6), some (.long s9), none] [] Q)) : mi_W (d + 1) 202 1077 [some (.ref l1), some (.ref l2), some (.ref l3), some (.ref l4), some (.int l5), some (.int l6), o7, o8] [.long s9] (n, sl, f) Q := by
  refine w_lstore (ls' := [some (.ref l1), some (.ref l2), some (.ref l3), some (.ref l4), some (.int l5), some (.int l6), some (.long s9), none]) cd_202_1077 (Nat.le_of_ble_eq_true rfl) rfl ?_
  refine w_aload_n cd_202_1079 rfl ?_
  exact w_invokevirtual cd_202_1080 (show mt_m 18 75 = some (136, 0) by decide +kernel) (rest := []) rfl (as := [.ref l3]) rfl h11 (Or.inl h12) ⟨Nat.le_of_ble_eq_true rfl, Nat.le_of_ble_eq_true rfl, Nat.le_of_ble_eq_true rfl⟩ h13
theorem b_202_1083 {d : Nat} {Q : (Option Value ⊕ Nat) → mi_H → Prop} (n sl : Nat) (f : Nat → mi_C) {l1 : Nat} {l2 : Nat} {l3 : Nat} {l4 : Nat} {l5 : Int32} {l6 : Int32} {l7 : Int64} {s8 : Int32} (h9 : s8 = l6 → mi_W d 202 1090 [some (.ref l1), some (.ref l2), some (.ref l3), some (.ref l4), some (.int l5), some (.int l6), some (.long l7), none] [] (n, sl, f) Q) (h10 : ¬ (s8 = l6) → mi_W d 202 1088 [some (.ref l1), some (.ref l2), some (.ref l3), some (.ref l4), some (.int l5), some (.int l6), some (.long l7), none] [] (n, sl, f) Q) : mi_W d 202 1083 [some (.ref l1), some (.ref l2), some (.ref l3), some (.ref l4), some (.int l5), some (.int l6), some (.long l7), none] [.int s8] (n, sl, f) Q := by
  refine w_iload cd_202_1083 rfl ?_
  exact w_if_icmpeq cd_202_1085 (by decide) h9 h10
theorem b_202_1088 {d : Nat} {Q : (Option Value ⊕ Nat) → mi_H → Prop} (n sl : Nat) (f : Nat → mi_C) {l1 : Nat} {l2 : Nat} {l3 : Nat} {l4 : Nat} {l5 : Int32} {l6 : Int32} {l7 : Int64} (h8 : Q (.inl (some (.int 0))) (n, sl, f)) : mi_W d 202 1088 [some (.ref l1), some (.ref l2), some (.ref l3), some (.ref l4), some (.int l5), some (.int l6), some (.long l7), none] [] (n, sl, f) Q := by
  refine w_iconst (v := 0) cd_202_1088 (by decide) ?_
  exact w_ireturn_z cd_202_1089 (by decide +kernel) (by decide) h8
theorem b_202_1090 {d : Nat} {Q : (Option Value ⊕ Nat) → mi_H → Prop} (n sl : Nat) (f : Nat → mi_C) {l1 : Nat} {l2 : Nat} {l3 : Nat} {l4 : Nat} {l5 : Int32} {l6 : Int32} {l7 : Int64} (h8 : ¬ l6 = (0 : Int32) → mi_W d 202 1106 [some (.ref l1), some (.ref l2), some (.ref l3), some (.ref l4), some (.int l5), some (.int l6), some (.long l7), none] [] (n, sl, f) Q) (h9 : ¬ (¬ l6 = (0 : Int32)) → mi_W d 202 1095 [some (.ref l1), some (.ref l2), some (.ref l3), some (.ref l4), some (.int l5), some (.int l6), some (.long l7), none] [] (n, sl, f) Q) : mi_W d 202 1090 [some (.ref l1), some (.ref l2), some (.ref l3), some (.ref l4), some (.int l5), some (.int l6), some (.long l7), none] [] (n, sl, f) Q := by
  refine w_iload cd_202_1090 rfl ?_
  exact w_ifne cd_202_1092 (by decide) h8 h9
theorem b_202_1095 {d : Nat} {Q : (Option Value ⊕ Nat) → mi_H → Prop} (n sl : Nat) (f : Nat → mi_C) {l1 : Nat} {l2 : Nat} {l3 : Nat} {l4 : Nat} {l5 : Int32} {l6 : Int32} {l7 : Int64} (m8 i8 : Nat) (g8 : Nat → Int64) (h9 : f l4 = .inl (3, m8, .inr (.inl g8))) (h10 : l4 < n) (h11 : mi_ix 0 m8 i8) (h12 : (lg_cmp (g8 i8) l7) = (0 : Int32) → mi_W d 202 1106 [some (.ref l1), some (.ref l2), some (.ref l3), some (.ref l4), some (.int l5), some (.int l6), some (.long l7), none] [] (n, sl, f) Q) (h13 : ¬ ((lg_cmp (g8 i8) l7) = (0 : Int32)) → mi_W d 202 1104 [some (.ref l1), some (.ref l2), some (.ref l3), some (.ref l4), some (.int l5), some (.int l6), some (.long l7), none] [] (n, sl, f) Q) : mi_W d 202 1095 [some (.ref l1), some (.ref l2), some (.ref l3), some (.ref l4), some (.int l5), some (.int l6), some (.long l7), none] [] (n, sl, f) Q := by
  refine w_aload_n cd_202_1095 rfl ?_
  refine w_iconst (v := 0) cd_202_1096 (by decide) ?_
  refine w_laload cd_202_1097 h9 h10 h11 ?_
  refine w_lload cd_202_1098 rfl ?_
  refine w_lcmp cd_202_1100 ?_
  exact w_ifeq cd_202_1101 (by decide) h12 h13
theorem b_202_1104 {d : Nat} {Q : (Option Value ⊕ Nat) → mi_H → Prop} (n sl : Nat) (f : Nat → mi_C) {l1 : Nat} {l2 : Nat} {l3 : Nat} {l4 : Nat} {l5 : Int32} {l6 : Int32} {l7 : Int64} (h8 : Q (.inl (some (.int 0))) (n, sl, f)) : mi_W d 202 1104 [some (.ref l1), some (.ref l2), some (.ref l3), some (.ref l4), some (.int l5), some (.int l6), some (.long l7), none] [] (n, sl, f) Q := by
  refine w_iconst (v := 0) cd_202_1104 (by decide) ?_
  exact w_ireturn_z cd_202_1105 (by decide +kernel) (by decide) h8
theorem b_202_1106 {d : Nat} {Q : (Option Value ⊕ Nat) → mi_H → Prop} (n sl : Nat) (f : Nat → mi_C) {l1 : Nat} {l2 : Nat} {l3 : Nat} {l4 : Nat} {l5 : Int32} {l6 : Int32} {l7 : Int64} (h8 : mi_W d 202 1165 [some (.ref l1), some (.ref l2), some (.ref l3), some (.ref l4), some (.int l5), some (.int l6), some (.long l7), none] [] (n, sl, f) Q) : mi_W d 202 1106 [some (.ref l1), some (.ref l2), some (.ref l3), some (.ref l4), some (.int l5), some (.int l6), some (.long l7), none] [] (n, sl, f) Q := by
  exact w_goto cd_202_1106 (by decide) h8
theorem b_202_1109 {d : Nat} {Q : (Option Value ⊕ Nat) → mi_H → Prop} (n sl : Nat) (f : Nat → mi_C) {l1 : Nat} {l2 : Nat} {l3 : Nat} {l4 : Nat} {l5 : Int32} {o6 : Option Value} {o7 : Option Value} {o8 : Option Value} (m9 i9 : Nat) (g9 : Nat → Int32) (h10 : f l1 = .inl (0, m9, .inl g9)) (h11 : l1 < n ∨ l1 = mi_SC) (h12 : mi_ix (l5 + 1) m9 i9) (h13 : mi_W d 131 0 (mi_en 4 [.ref l2, .int (g9 i9), .ref l4]) [] (n, sl, f) (mi_Kc d 202 1117 [some (.ref l1), some (.ref l2), some (.ref l3), some (.ref l4), some (.int l5), o6, o7, o8] [] Q)) : mi_W (d + 1) 202 1109 [some (.ref l1), some (.ref l2), some (.ref l3), some (.ref l4), some (.int l5), o6, o7, o8] [] (n, sl, f) Q := by
  refine w_aload_n cd_202_1109 rfl ?_
  refine w_aload_n cd_202_1110 rfl ?_
  refine w_iload cd_202_1111 rfl ?_
  refine w_iconst (v := 1) cd_202_1113 (by decide) ?_
  refine w_iadd cd_202_1114 ?_
  refine w_iaload cd_202_1115 h10 h11 h12 ?_
  refine w_aload_n cd_202_1116 rfl ?_
  exact w_invokestatic cd_202_1117 (show mt_m 18 125 = some (131, 4) by decide +kernel) (by decide) (rest := []) rfl (as := [.ref l2, .int (g9 i9), .ref l4]) rfl ⟨Nat.le_of_ble_eq_true rfl, Nat.le_of_ble_eq_true rfl, Nat.le_of_ble_eq_true rfl⟩ h13
theorem b_202_1120 {d : Nat} {Q : (Option Value ⊕ Nat) → mi_H → Prop} (n sl : Nat) (f : Nat → mi_C) {l1 : Nat} {l2 : Nat} {l3 : Nat} {l4 : Nat} {l5 : Int32} {o6 : Option Value} {o7 : Option Value} {o8 : Option Value} {s9 : Int32} (m10 i10 : Nat) (g10 : Nat → Int32) {fs14 : List Value} (h11 : f l1 = .inl (0, m10, .inl g10)) (h12 : l1 < n ∨ l1 = mi_SC) (h13 : mi_ix (l5 + 1) m10 i10) (h15 : f l3 = .inr (12, fs14)) (h16 : l3 < n) (h17 : mi_W d 201 0 (mi_en 2 [.ref l3, .int (g10 i10)]) [] (n, sl, f) (mi_Kc d 202 1129 [some (.ref l1), some (.ref l2), some (.ref l3), some (.ref l4), some (.int l5), some (.int s9), o7, o8] [] Q)) : mi_W (d + 1) 202 1120 [some (.ref l1), some (.ref l2), some (.ref l3), some (.ref l4), some (.int l5), o6, o7, o8] [.int s9] (n, sl, f) Q := by
  refine w_istore (ls' := [some (.ref l1), some (.ref l2), some (.ref l3), some (.ref l4), some (.int l5), some (.int s9), o7, o8]) cd_202_1120 (Nat.le_of_ble_eq_true rfl) rfl ?_
  refine w_aload_n cd_202_1122 rfl ?_
  refine w_aload_n cd_202_1123 rfl ?_
  refine w_iload cd_202_1124 rfl ?_
  refine w_iconst (v := 1) cd_202_1126 (by decide) ?_
  refine w_iadd cd_202_1127 ?_
  refine w_iaload cd_202_1128 h11 h12 h13 ?_
  exact w_invokevirtual cd_202_1129 (show mt_m 18 127 = some (201, 0) by decide +kernel) (rest := []) rfl (as := [.ref l3, .int (g10 i10)]) rfl h15 (Or.inl h16) ⟨Nat.le_of_ble_eq_true rfl, Nat.le_of_ble_eq_true rfl, Nat.le_of_ble_eq_true rfl⟩ h17
theorem b_202_1132 {d : Nat} {Q : (Option Value ⊕ Nat) → mi_H → Prop} (n sl : Nat) (f : Nat → mi_C) {l1 : Nat} {l2 : Nat} {l3 : Nat} {l4 : Nat} {l5 : Int32} {l6 : Int32} {o7 : Option Value} {o8 : Option Value} {s9 : Int32} {fs10 : List Value} (h11 : f l3 = .inr (12, fs10)) (h12 : l3 < n) (h13 : mi_W d 136 0 (mi_en 1 [.ref l3]) [] (n, sl, f) (mi_Kc d 202 1135 [some (.ref l1), some (.ref l2), some (.ref l3), some (.ref l4), some (.int l5), some (.int l6), some (.int s9), o8] [] Q)) : mi_W (d + 1) 202 1132 [some (.ref l1), some (.ref l2), some (.ref l3), some (.ref l4), some (.int l5), some (.int l6), o7, o8] [.int s9] (n, sl, f) Q := by
  refine w_istore (ls' := [some (.ref l1), some (.ref l2), some (.ref l3), some (.ref l4), some (.int l5), some (.int l6), some (.int s9), o8]) cd_202_1132 (Nat.le_of_ble_eq_true rfl) rfl ?_
  refine w_aload_n cd_202_1134 rfl ?_
  exact w_invokevirtual cd_202_1135 (show mt_m 18 75 = some (136, 0) by decide +kernel) (rest := []) rfl (as := [.ref l3]) rfl h11 (Or.inl h12) ⟨Nat.le_of_ble_eq_true rfl, Nat.le_of_ble_eq_true rfl, Nat.le_of_ble_eq_true rfl⟩ h13
theorem b_202_1138 {d : Nat} {Q : (Option Value ⊕ Nat) → mi_H → Prop} (n sl : Nat) (f : Nat → mi_C) {l1 : Nat} {l2 : Nat} {l3 : Nat} {l4 : Nat} {l5 : Int32} {l6 : Int32} {l7 : Int32} {o8 : Option Value} {s9 : Int32} (h10 : s9 = l6 → mi_W d 202 1145 [some (.ref l1), some (.ref l2), some (.ref l3), some (.ref l4), some (.int l5), some (.int l6), some (.int l7), o8] [] (n, sl, f) Q) (h11 : ¬ (s9 = l6) → mi_W d 202 1143 [some (.ref l1), some (.ref l2), some (.ref l3), some (.ref l4), some (.int l5), some (.int l6), some (.int l7), o8] [] (n, sl, f) Q) : mi_W d 202 1138 [some (.ref l1), some (.ref l2), some (.ref l3), some (.ref l4), some (.int l5), some (.int l6), some (.int l7), o8] [.int s9] (n, sl, f) Q := by
  refine w_iload cd_202_1138 rfl ?_
  exact w_if_icmpeq cd_202_1140 (by decide) h10 h11
theorem b_202_1143 {d : Nat} {Q : (Option Value ⊕ Nat) → mi_H → Prop} (n sl : Nat) (f : Nat → mi_C) {l1 : Nat} {l2 : Nat} {l3 : Nat} {l4 : Nat} {l5 : Int32} {l6 : Int32} {l7 : Int32} {o8 : Option Value} (h9 : Q (.inl (some (.int 0))) (n, sl, f)) : mi_W d 202 1143 [some (.ref l1), some (.ref l2), some (.ref l3), some (.ref l4), some (.int l5), some (.int l6), some (.int l7), o8] [] (n, sl, f) Q := by
  refine w_iconst (v := 0) cd_202_1143 (by decide) ?_
  exact w_ireturn_z cd_202_1144 (by decide +kernel) (by decide) h9
theorem b_202_1145 {d : Nat} {Q : (Option Value ⊕ Nat) → mi_H → Prop} (n sl : Nat) (f : Nat → mi_C) {l1 : Nat} {l2 : Nat} {l3 : Nat} {l4 : Nat} {l5 : Int32} {l6 : Int32} {l7 : Int32} {o8 : Option Value} (h9 : ¬ l6 = (0 : Int32) → mi_W d 202 1162 [some (.ref l1), some (.ref l2), some (.ref l3), some (.ref l4), some (.int l5), some (.int l6), some (.int l7), o8] [] (n, sl, f) Q) (h10 : ¬ (¬ l6 = (0 : Int32)) → mi_W d 202 1150 [some (.ref l1), some (.ref l2), some (.ref l3), some (.ref l4), some (.int l5), some (.int l6), some (.int l7), o8] [] (n, sl, f) Q) : mi_W d 202 1145 [some (.ref l1), some (.ref l2), some (.ref l3), some (.ref l4), some (.int l5), some (.int l6), some (.int l7), o8] [] (n, sl, f) Q := by
  refine w_iload cd_202_1145 rfl ?_
  exact w_ifne cd_202_1147 (by decide) h9 h10
theorem b_202_1150 {d : Nat} {Q : (Option Value ⊕ Nat) → mi_H → Prop} (n sl : Nat) (f : Nat → mi_C) {l1 : Nat} {l2 : Nat} {l3 : Nat} {l4 : Nat} {l5 : Int32} {l6 : Int32} {l7 : Int32} {o8 : Option Value} (m9 i9 : Nat) (g9 : Nat → Int64) (h10 : f l4 = .inl (3, m9, .inr (.inl g9))) (h11 : l4 < n) (h12 : mi_ix 0 m9 i9) (h13 : (lg_cmp (g9 i9) ((l7 : Int32).toInt64)) = (0 : Int32) → mi_W d 202 1162 [some (.ref l1), some (.ref l2), some (.ref l3), some (.ref l4), some (.int l5), some (.int l6), some (.int l7), o8] [] (n, sl, f) Q) (h14 : ¬ ((lg_cmp (g9 i9) ((l7 : Int32).toInt64)) = (0 : Int32)) → mi_W d 202 1160 [some (.ref l1), some (.ref l2), some (.ref l3), some (.ref l4), some (.int l5), some (.int l6), some (.int l7), o8] [] (n, sl, f) Q) : mi_W d 202 1150 [some (.ref l1), some (.ref l2), some (.ref l3), some (.ref l4), some (.int l5), some (.int l6), some (.int l7), o8] [] (n, sl, f) Q := by
  refine w_aload_n cd_202_1150 rfl ?_
  refine w_iconst (v := 0) cd_202_1151 (by decide) ?_
  refine w_laload cd_202_1152 h10 h11 h12 ?_
  refine w_iload cd_202_1153 rfl ?_
  refine w_i2l cd_202_1155 ?_
  refine w_lcmp cd_202_1156 ?_
  exact w_ifeq cd_202_1157 (by decide) h13 h14
theorem b_202_1160 {d : Nat} {Q : (Option Value ⊕ Nat) → mi_H → Prop} (n sl : Nat) (f : Nat → mi_C) {l1 : Nat} {l2 : Nat} {l3 : Nat} {l4 : Nat} {l5 : Int32} {l6 : Int32} {l7 : Int32} {o8 : Option Value} (h9 : Q (.inl (some (.int 0))) (n, sl, f)) : mi_W d 202 1160 [some (.ref l1), some (.ref l2), some (.ref l3), some (.ref l4), some (.int l5), some (.int l6), some (.int l7), o8] [] (n, sl, f) Q := by
  refine w_iconst (v := 0) cd_202_1160 (by decide) ?_
  exact w_ireturn_z cd_202_1161 (by decide +kernel) (by decide) h9
theorem b_202_1162 {d : Nat} {Q : (Option Value ⊕ Nat) → mi_H → Prop} (n sl : Nat) (f : Nat → mi_C) {l1 : Nat} {l2 : Nat} {l3 : Nat} {l4 : Nat} {l5 : Int32} {l6 : Int32} {l7 : Int32} {o8 : Option Value} (h9 : mi_W d 202 1165 [some (.ref l1), some (.ref l2), some (.ref l3), some (.ref l4), some (.int l5), some (.int l6), some (.int l7), o8] [] (n, sl, f) Q) : mi_W d 202 1162 [some (.ref l1), some (.ref l2), some (.ref l3), some (.ref l4), some (.int l5), some (.int l6), some (.int l7), o8] [] (n, sl, f) Q := by
  exact w_goto cd_202_1162 (by decide) h9
theorem b_202_1165 {d : Nat} {Q : (Option Value ⊕ Nat) → mi_H → Prop} (n sl : Nat) (f : Nat → mi_C) {l1 : Nat} {l2 : Nat} {l3 : Nat} {l4 : Nat} {l5 : Int32} {o6 : Option Value} {o7 : Option Value} {o8 : Option Value} (h9 : mi_W d 202 23 [some (.ref l1), some (.ref l2), some (.ref l3), some (.ref l4), some (.int (l5 + 6)), o6, o7, o8] [] (n, sl, f) Q) : mi_W d 202 1165 [some (.ref l1), some (.ref l2), some (.ref l3), some (.ref l4), some (.int l5), o6, o7, o8] [] (n, sl, f) Q := by
  refine w_iinc (v := 6) (ls' := [some (.ref l1), some (.ref l2), some (.ref l3), some (.ref l4), some (.int (l5 + 6)), o6, o7, o8]) cd_202_1165 rfl (by decide) rfl ?_
  exact w_goto cd_202_1168 (by decide) h9
theorem b_202_1171 {d : Nat} {Q : (Option Value ⊕ Nat) → mi_H → Prop} (n sl : Nat) (f : Nat → mi_C) {l1 : Nat} {l2 : Nat} {l3 : Nat} {l4 : Nat} {l5 : Int32} {o6 : Option Value} {o7 : Option Value} {o8 : Option Value} (h9 : Q (.inl (some (.int 1))) (n, sl, f)) : mi_W d 202 1171 [some (.ref l1), some (.ref l2), some (.ref l3), some (.ref l4), some (.int l5), o6, o7, o8] [] (n, sl, f) Q := by
  refine w_iconst (v := 1) cd_202_1171 (by decide) ?_
  exact w_ireturn_z cd_202_1172 (by decide +kernel) (by decide) h9
end
