section
/-! MarloweHostModel.timed(I)Z -/
set_option maxRecDepth 100000 in
theorem mq_195 : mt_q 195 = my_195 := rfl
set_option maxRecDepth 100000 in
theorem ci_195 : mt_inc 0 my_195.cd = true := by decide +kernel
theorem cd_195_0 : mt_cd 195 0 = some (.aload_n 0) := mt_cd_of (q := (0, .aload_n 0, 1)) mq_195 ci_195 (List.mem_of_getElem? (i := 0) rfl)
theorem cd_195_1 : mt_cd 195 1 = some (.getfield 77) := mt_cd_of (q := (1, .getfield 77, 3)) mq_195 ci_195 (List.mem_of_getElem? (i := 1) rfl)
theorem cd_195_4 : mt_cd 195 4 = some (.iload_n 1) := mt_cd_of (q := (4, .iload_n 1, 1)) mq_195 ci_195 (List.mem_of_getElem? (i := 2) rfl)
theorem cd_195_5 : mt_cd 195 5 = some (.iaload) := mt_cd_of (q := (5, .iaload, 1)) mq_195 ci_195 (List.mem_of_getElem? (i := 3) rfl)
theorem cd_195_6 : mt_cd 195 6 = some (.tableswitch 188 12 32 #[100, 156, 156, 156, 156, 188, 188, 98, 98, 111, 188, 188, 156, 156, 100, 188, 156, 156, 156, 156, 156]) := mt_cd_of (q := (6, .tableswitch 188 12 32 #[100, 156, 156, 156, 156, 188, 188, 98, 98, 111, 188, 188, 156, 156, 100, 188, 156, 156, 156, 156, 156], 98)) mq_195 ci_195 (List.mem_of_getElem? (i := 4) rfl)
theorem cd_195_104 : mt_cd 195 104 = some (.iconst 1) := mt_cd_of (q := (104, .iconst 1, 1)) mq_195 ci_195 (List.mem_of_getElem? (i := 5) rfl)
theorem cd_195_105 : mt_cd 195 105 = some (.ireturn) := mt_cd_of (q := (105, .ireturn, 1)) mq_195 ci_195 (List.mem_of_getElem? (i := 6) rfl)
theorem cd_195_106 : mt_cd 195 106 = some (.aload_n 0) := mt_cd_of (q := (106, .aload_n 0, 1)) mq_195 ci_195 (List.mem_of_getElem? (i := 7) rfl)
theorem cd_195_107 : mt_cd 195 107 = some (.aload_n 0) := mt_cd_of (q := (107, .aload_n 0, 1)) mq_195 ci_195 (List.mem_of_getElem? (i := 8) rfl)
theorem cd_195_108 : mt_cd 195 108 = some (.getfield 80) := mt_cd_of (q := (108, .getfield 80, 3)) mq_195 ci_195 (List.mem_of_getElem? (i := 9) rfl)
theorem cd_195_111 : mt_cd 195 111 = some (.iload_n 1) := mt_cd_of (q := (111, .iload_n 1, 1)) mq_195 ci_195 (List.mem_of_getElem? (i := 10) rfl)
theorem cd_195_112 : mt_cd 195 112 = some (.iaload) := mt_cd_of (q := (112, .iaload, 1)) mq_195 ci_195 (List.mem_of_getElem? (i := 11) rfl)
theorem cd_195_113 : mt_cd 195 113 = some (.invokevirtual 554) := mt_cd_of (q := (113, .invokevirtual 554, 3)) mq_195 ci_195 (List.mem_of_getElem? (i := 12) rfl)
theorem cd_195_116 : mt_cd 195 116 = some (.ireturn) := mt_cd_of (q := (116, .ireturn, 1)) mq_195 ci_195 (List.mem_of_getElem? (i := 13) rfl)
theorem cd_195_117 : mt_cd 195 117 = some (.aload_n 0) := mt_cd_of (q := (117, .aload_n 0, 1)) mq_195 ci_195 (List.mem_of_getElem? (i := 14) rfl)
theorem cd_195_118 : mt_cd 195 118 = some (.aload_n 0) := mt_cd_of (q := (118, .aload_n 0, 1)) mq_195 ci_195 (List.mem_of_getElem? (i := 15) rfl)
theorem cd_195_119 : mt_cd 195 119 = some (.getfield 89) := mt_cd_of (q := (119, .getfield 89, 3)) mq_195 ci_195 (List.mem_of_getElem? (i := 16) rfl)
theorem cd_195_122 : mt_cd 195 122 = some (.iload_n 1) := mt_cd_of (q := (122, .iload_n 1, 1)) mq_195 ci_195 (List.mem_of_getElem? (i := 17) rfl)
theorem cd_195_123 : mt_cd 195 123 = some (.iaload) := mt_cd_of (q := (123, .iaload, 1)) mq_195 ci_195 (List.mem_of_getElem? (i := 18) rfl)
theorem cd_195_124 : mt_cd 195 124 = some (.invokevirtual 554) := mt_cd_of (q := (124, .invokevirtual 554, 3)) mq_195 ci_195 (List.mem_of_getElem? (i := 19) rfl)
theorem cd_195_127 : mt_cd 195 127 = some (.ifCond .ne 29) := mt_cd_of (q := (127, .ifCond .ne 29, 3)) mq_195 ci_195 (List.mem_of_getElem? (i := 20) rfl)
theorem cd_195_130 : mt_cd 195 130 = some (.aload_n 0) := mt_cd_of (q := (130, .aload_n 0, 1)) mq_195 ci_195 (List.mem_of_getElem? (i := 21) rfl)
theorem cd_195_131 : mt_cd 195 131 = some (.aload_n 0) := mt_cd_of (q := (131, .aload_n 0, 1)) mq_195 ci_195 (List.mem_of_getElem? (i := 22) rfl)
theorem cd_195_132 : mt_cd 195 132 = some (.getfield 80) := mt_cd_of (q := (132, .getfield 80, 3)) mq_195 ci_195 (List.mem_of_getElem? (i := 23) rfl)
theorem cd_195_135 : mt_cd 195 135 = some (.iload_n 1) := mt_cd_of (q := (135, .iload_n 1, 1)) mq_195 ci_195 (List.mem_of_getElem? (i := 24) rfl)
theorem cd_195_136 : mt_cd 195 136 = some (.iaload) := mt_cd_of (q := (136, .iaload, 1)) mq_195 ci_195 (List.mem_of_getElem? (i := 25) rfl)
theorem cd_195_137 : mt_cd 195 137 = some (.invokevirtual 554) := mt_cd_of (q := (137, .invokevirtual 554, 3)) mq_195 ci_195 (List.mem_of_getElem? (i := 26) rfl)
theorem cd_195_140 : mt_cd 195 140 = some (.ifCond .ne 16) := mt_cd_of (q := (140, .ifCond .ne 16, 3)) mq_195 ci_195 (List.mem_of_getElem? (i := 27) rfl)
theorem cd_195_143 : mt_cd 195 143 = some (.aload_n 0) := mt_cd_of (q := (143, .aload_n 0, 1)) mq_195 ci_195 (List.mem_of_getElem? (i := 28) rfl)
theorem cd_195_144 : mt_cd 195 144 = some (.aload_n 0) := mt_cd_of (q := (144, .aload_n 0, 1)) mq_195 ci_195 (List.mem_of_getElem? (i := 29) rfl)
theorem cd_195_145 : mt_cd 195 145 = some (.getfield 83) := mt_cd_of (q := (145, .getfield 83, 3)) mq_195 ci_195 (List.mem_of_getElem? (i := 30) rfl)
theorem cd_195_148 : mt_cd 195 148 = some (.iload_n 1) := mt_cd_of (q := (148, .iload_n 1, 1)) mq_195 ci_195 (List.mem_of_getElem? (i := 31) rfl)
theorem cd_195_149 : mt_cd 195 149 = some (.iaload) := mt_cd_of (q := (149, .iaload, 1)) mq_195 ci_195 (List.mem_of_getElem? (i := 32) rfl)
theorem cd_195_150 : mt_cd 195 150 = some (.invokevirtual 554) := mt_cd_of (q := (150, .invokevirtual 554, 3)) mq_195 ci_195 (List.mem_of_getElem? (i := 33) rfl)
theorem cd_195_153 : mt_cd 195 153 = some (.ifCond .eq 7) := mt_cd_of (q := (153, .ifCond .eq 7, 3)) mq_195 ci_195 (List.mem_of_getElem? (i := 34) rfl)
theorem cd_195_156 : mt_cd 195 156 = some (.iconst 1) := mt_cd_of (q := (156, .iconst 1, 1)) mq_195 ci_195 (List.mem_of_getElem? (i := 35) rfl)
theorem cd_195_157 : mt_cd 195 157 = some (.goto 4) := mt_cd_of (q := (157, .goto 4, 3)) mq_195 ci_195 (List.mem_of_getElem? (i := 36) rfl)
theorem cd_195_160 : mt_cd 195 160 = some (.iconst 0) := mt_cd_of (q := (160, .iconst 0, 1)) mq_195 ci_195 (List.mem_of_getElem? (i := 37) rfl)
theorem cd_195_161 : mt_cd 195 161 = some (.ireturn) := mt_cd_of (q := (161, .ireturn, 1)) mq_195 ci_195 (List.mem_of_getElem? (i := 38) rfl)
theorem cd_195_162 : mt_cd 195 162 = some (.aload_n 0) := mt_cd_of (q := (162, .aload_n 0, 1)) mq_195 ci_195 (List.mem_of_getElem? (i := 39) rfl)
theorem cd_195_163 : mt_cd 195 163 = some (.aload_n 0) := mt_cd_of (q := (163, .aload_n 0, 1)) mq_195 ci_195 (List.mem_of_getElem? (i := 40) rfl)
theorem cd_195_164 : mt_cd 195 164 = some (.getfield 80) := mt_cd_of (q := (164, .getfield 80, 3)) mq_195 ci_195 (List.mem_of_getElem? (i := 41) rfl)
theorem cd_195_167 : mt_cd 195 167 = some (.iload_n 1) := mt_cd_of (q := (167, .iload_n 1, 1)) mq_195 ci_195 (List.mem_of_getElem? (i := 42) rfl)
theorem cd_195_168 : mt_cd 195 168 = some (.iaload) := mt_cd_of (q := (168, .iaload, 1)) mq_195 ci_195 (List.mem_of_getElem? (i := 43) rfl)
theorem cd_195_169 : mt_cd 195 169 = some (.invokevirtual 554) := mt_cd_of (q := (169, .invokevirtual 554, 3)) mq_195 ci_195 (List.mem_of_getElem? (i := 44) rfl)
theorem cd_195_172 : mt_cd 195 172 = some (.ifCond .ne 16) := mt_cd_of (q := (172, .ifCond .ne 16, 3)) mq_195 ci_195 (List.mem_of_getElem? (i := 45) rfl)
theorem cd_195_175 : mt_cd 195 175 = some (.aload_n 0) := mt_cd_of (q := (175, .aload_n 0, 1)) mq_195 ci_195 (List.mem_of_getElem? (i := 46) rfl)
theorem cd_195_176 : mt_cd 195 176 = some (.aload_n 0) := mt_cd_of (q := (176, .aload_n 0, 1)) mq_195 ci_195 (List.mem_of_getElem? (i := 47) rfl)
theorem cd_195_177 : mt_cd 195 177 = some (.getfield 83) := mt_cd_of (q := (177, .getfield 83, 3)) mq_195 ci_195 (List.mem_of_getElem? (i := 48) rfl)
theorem cd_195_180 : mt_cd 195 180 = some (.iload_n 1) := mt_cd_of (q := (180, .iload_n 1, 1)) mq_195 ci_195 (List.mem_of_getElem? (i := 49) rfl)
theorem cd_195_181 : mt_cd 195 181 = some (.iaload) := mt_cd_of (q := (181, .iaload, 1)) mq_195 ci_195 (List.mem_of_getElem? (i := 50) rfl)
theorem cd_195_182 : mt_cd 195 182 = some (.invokevirtual 554) := mt_cd_of (q := (182, .invokevirtual 554, 3)) mq_195 ci_195 (List.mem_of_getElem? (i := 51) rfl)
theorem cd_195_185 : mt_cd 195 185 = some (.ifCond .eq 7) := mt_cd_of (q := (185, .ifCond .eq 7, 3)) mq_195 ci_195 (List.mem_of_getElem? (i := 52) rfl)
theorem cd_195_188 : mt_cd 195 188 = some (.iconst 1) := mt_cd_of (q := (188, .iconst 1, 1)) mq_195 ci_195 (List.mem_of_getElem? (i := 53) rfl)
theorem cd_195_189 : mt_cd 195 189 = some (.goto 4) := mt_cd_of (q := (189, .goto 4, 3)) mq_195 ci_195 (List.mem_of_getElem? (i := 54) rfl)
theorem cd_195_192 : mt_cd 195 192 = some (.iconst 0) := mt_cd_of (q := (192, .iconst 0, 1)) mq_195 ci_195 (List.mem_of_getElem? (i := 55) rfl)
theorem cd_195_193 : mt_cd 195 193 = some (.ireturn) := mt_cd_of (q := (193, .ireturn, 1)) mq_195 ci_195 (List.mem_of_getElem? (i := 56) rfl)
theorem cd_195_194 : mt_cd 195 194 = some (.iconst 0) := mt_cd_of (q := (194, .iconst 0, 1)) mq_195 ci_195 (List.mem_of_getElem? (i := 57) rfl)
theorem cd_195_195 : mt_cd 195 195 = some (.ireturn) := mt_cd_of (q := (195, .ireturn, 1)) mq_195 ci_195 (List.mem_of_getElem? (i := 58) rfl)
theorem b_195_0 {d : Nat} {Q : (Option Value ⊕ Nat) → mi_H → Prop} (n sl : Nat) (f : Nat → mi_C) {l1 : Nat} {l2 : Int32} {fs3 : List Value} {x6 : Nat} (m8 i8 : Nat) (g8 : Nat → Int32) {t12 : Nat} (h4 : f l1 = .inr (12, fs3)) (h5 : l1 < n) (h7 : fs3[12]? = some (.ref x6)) (h9 : f x6 = .inl (0, m8, .inl g8)) (h10 : x6 < n ∨ x6 = mi_SC) (h11 : mi_ix l2 m8 i8) (h13 : mi_ts 6 188 12 32 #[100, 156, 156, 156, 156, 188, 188, 98, 98, 111, 188, 188, 156, 156, 100, 188, 156, 156, 156, 156, 156] ((g8 i8) : Int32).toInt = some t12) (h14 : mi_W d 195 t12 [some (.ref l1), some (.int l2)] [] (n, sl, f) Q) : mi_W d 195 0 [some (.ref l1), some (.int l2)] [] (n, sl, f) Q := by
  refine w_aload_n cd_195_0 rfl ?_
  refine w_getfield cd_195_1 (show mt_f 12 77 = some (12, 12) by decide +kernel) h4 h5 h7 ?_
  refine w_iload_n cd_195_4 rfl ?_
  refine w_iaload cd_195_5 h9 h10 h11 ?_
  exact w_tableswitch cd_195_6 h13 h14
theorem b_195_104 {d : Nat} {Q : (Option Value ⊕ Nat) → mi_H → Prop} (n sl : Nat) (f : Nat → mi_C) {l1 : Nat} {l2 : Int32} (h3 : Q (.inl (some (.int 1))) (n, sl, f)) : mi_W d 195 104 [some (.ref l1), some (.int l2)] [] (n, sl, f) Q := by
  refine w_iconst (v := 1) cd_195_104 (by decide) ?_
  exact w_ireturn_z cd_195_105 (by decide +kernel) (by decide) h3
theorem b_195_106 {d : Nat} {Q : (Option Value ⊕ Nat) → mi_H → Prop} (n sl : Nat) (f : Nat → mi_C) {l1 : Nat} {l2 : Int32} {fs3 : List Value} {x6 : Nat} (m8 i8 : Nat) (g8 : Nat → Int32) {fs12 : List Value} (h4 : f l1 = .inr (12, fs3)) (h5 : l1 < n) (h7 : fs3[13]? = some (.ref x6)) (h9 : f x6 = .inl (0, m8, .inl g8)) (h10 : x6 < n ∨ x6 = mi_SC) (h11 : mi_ix l2 m8 i8) (h13 : f l1 = .inr (12, fs12)) (h14 : l1 < n) (h15 : mi_W d 195 0 (mi_en 2 [.ref l1, .int (g8 i8)]) [] (n, sl, f) (mi_Kc d 195 113 [some (.ref l1), some (.int l2)] [] Q)) : mi_W (d + 1) 195 106 [some (.ref l1), some (.int l2)] [] (n, sl, f) Q := by
  refine w_aload_n cd_195_106 rfl ?_
  refine w_aload_n cd_195_107 rfl ?_
  refine w_getfield cd_195_108 (show mt_f 12 80 = some (12, 13) by decide +kernel) h4 h5 h7 ?_
  refine w_iload_n cd_195_111 rfl ?_
  refine w_iaload cd_195_112 h9 h10 h11 ?_
  exact w_invokevirtual cd_195_113 (show mt_m 12 554 = some (195, 0) by decide +kernel) (rest := []) rfl (as := [.ref l1, .int (g8 i8)]) rfl h13 (Or.inl h14) ⟨Nat.le_of_ble_eq_true rfl, Nat.le_of_ble_eq_true rfl, Nat.le_of_ble_eq_true rfl⟩ h15
theorem b_195_116 {d : Nat} {Q : (Option Value ⊕ Nat) → mi_H → Prop} (n sl : Nat) (f : Nat → mi_C) {l1 : Nat} {l2 : Int32} {s3 : Int32} (h4 : s3 = 0 ∨ s3 = 1) (h5 : Q (.inl (some (.int s3))) (n, sl, f)) : mi_W d 195 116 [some (.ref l1), some (.int l2)] [.int s3] (n, sl, f) Q := by
  exact w_ireturn_z cd_195_116 (by decide +kernel) h4 h5
theorem b_195_117 {d : Nat} {Q : (Option Value ⊕ Nat) → mi_H → Prop} (n sl : Nat) (f : Nat → mi_C) {l1 : Nat} {l2 : Int32} {fs3 : List Value} {x6 : Nat} (m8 i8 : Nat) (g8 : Nat → Int32) {fs12 : List Value} (h4 : f l1 = .inr (12, fs3)) (h5 : l1 < n) (h7 : fs3[16]? = some (.ref x6)) (h9 : f x6 = .inl (0, m8, .inl g8)) (h10 : x6 < n ∨ x6 = mi_SC) (h11 : mi_ix l2 m8 i8) (h13 : f l1 = .inr (12, fs12)) (h14 : l1 < n) (h15 : mi_W d 195 0 (mi_en 2 [.ref l1, .int (g8 i8)]) [] (n, sl, f) (mi_Kc d 195 124 [some (.ref l1), some (.int l2)] [] Q)) : mi_W (d + 1) 195 117 [some (.ref l1), some (.int l2)] [] (n, sl, f) Q := by
  refine w_aload_n cd_195_117 rfl ?_
  refine w_aload_n cd_195_118 rfl ?_
  refine w_getfield cd_195_119 (show mt_f 12 89 = some (12, 16) by decide +kernel) h4 h5 h7 ?_
  refine w_iload_n cd_195_122 rfl ?_
  refine w_iaload cd_195_123 h9 h10 h11 ?_
  exact w_invokevirtual cd_195_124 (show mt_m 12 554 = some (195, 0) by decide +kernel) (rest := []) rfl (as := [.ref l1, .int (g8 i8)]) rfl h13 (Or.inl h14) ⟨Nat.le_of_ble_eq_true rfl, Nat.le_of_ble_eq_true rfl, Nat.le_of_ble_eq_true rfl⟩ h15
theorem b_195_127 {d : Nat} {Q : (Option Value ⊕ Nat) → mi_H → Prop} (n sl : Nat) (f : Nat → mi_C) {l1 : Nat} {l2 : Int32} {s3 : Int32} (h4 : ¬ s3 = (0 : Int32) → mi_W d 195 156 [some (.ref l1), some (.int l2)] [] (n, sl, f) Q) (h5 : ¬ (¬ s3 = (0 : Int32)) → mi_W d 195 130 [some (.ref l1), some (.int l2)] [] (n, sl, f) Q) : mi_W d 195 127 [some (.ref l1), some (.int l2)] [.int s3] (n, sl, f) Q := by
  exact w_ifne cd_195_127 (by decide) h4 h5
theorem b_195_130 {d : Nat} {Q : (Option Value ⊕ Nat) → mi_H → Prop} (n sl : Nat) (f : Nat → mi_C) {l1 : Nat} {l2 : Int32} {fs3 : List Value} {x6 : Nat} (m8 i8 : Nat) (g8 : Nat → Int32) {fs12 : List Value} (h4 : f l1 = .inr (12, fs3)) (h5 : l1 < n) (h7 : fs3[13]? = some (.ref x6)) (h9 : f x6 = .inl (0, m8, .inl g8)) (h10 : x6 < n ∨ x6 = mi_SC) (h11 : mi_ix l2 m8 i8) (h13 : f l1 = .inr (12, fs12)) (h14 : l1 < n) (h15 : mi_W d 195 0 (mi_en 2 [.ref l1, .int (g8 i8)]) [] (n, sl, f) (mi_Kc d 195 137 [some (.ref l1), some (.int l2)] [] Q)) : mi_W (d + 1) 195 130 [some (.ref l1), some (.int l2)] [] (n, sl, f) Q := by
  refine w_aload_n cd_195_130 rfl ?_
  refine w_aload_n cd_195_131 rfl ?_
  refine w_getfield cd_195_132 (show mt_f 12 80 = some (12, 13) by decide +kernel) h4 h5 h7 ?_
  refine w_iload_n cd_195_135 rfl ?_
  refine w_iaload cd_195_136 h9 h10 h11 ?_
  exact w_invokevirtual cd_195_137 (show mt_m 12 554 = some (195, 0) by decide +kernel) (rest := []) rfl (as := [.ref l1, .int (g8 i8)]) rfl h13 (Or.inl h14) ⟨Nat.le_of_ble_eq_true rfl, Nat.le_of_ble_eq_true rfl, Nat.le_of_ble_eq_true rfl⟩ h15
theorem b_195_140 {d : Nat} {Q : (Option Value ⊕ Nat) → mi_H → Prop} (n sl : Nat) (f : Nat → mi_C) {l1 : Nat} {l2 : Int32} {s3 : Int32} (h4 : ¬ s3 = (0 : Int32) → mi_W d 195 156 [some (.ref l1), some (.int l2)] [] (n, sl, f) Q) (h5 : ¬ (¬ s3 = (0 : Int32)) → mi_W d 195 143 [some (.ref l1), some (.int l2)] [] (n, sl, f) Q) : mi_W d 195 140 [some (.ref l1), some (.int l2)] [.int s3] (n, sl, f) Q := by
  exact w_ifne cd_195_140 (by decide) h4 h5
theorem b_195_143 {d : Nat} {Q : (Option Value ⊕ Nat) → mi_H → Prop} (n sl : Nat) (f : Nat → mi_C) {l1 : Nat} {l2 : Int32} {fs3 : List Value} {x6 : Nat} (m8 i8 : Nat) (g8 : Nat → Int32) {fs12 : List Value} (h4 : f l1 = .inr (12, fs3)) (h5 : l1 < n) (h7 : fs3[14]? = some (.ref x6)) (h9 : f x6 = .inl (0, m8, .inl g8)) (h10 : x6 < n ∨ x6 = mi_SC) (h11 : mi_ix l2 m8 i8) (h13 : f l1 = .inr (12, fs12)) (h14 : l1 < n) (h15 : mi_W d 195 0 (mi_en 2 [.ref l1, .int (g8 i8)]) [] (n, sl, f) (mi_Kc d 195 150 [some (.ref l1), some (.int l2)] [] Q)) : mi_W (d + 1) 195 143 [some (.ref l1), some (.int l2)] [] (n, sl, f) Q := by
  refine w_aload_n cd_195_143 rfl ?_
  refine w_aload_n cd_195_144 rfl ?_
  refine w_getfield cd_195_145 (show mt_f 12 83 = some (12, 14) by decide +kernel) h4 h5 h7 ?_
  refine w_iload_n cd_195_148 rfl ?_
  refine w_iaload cd_195_149 h9 h10 h11 ?_
  exact w_invokevirtual cd_195_150 (show mt_m 12 554 = some (195, 0) by decide +kernel) (rest := []) rfl (as := [.ref l1, .int (g8 i8)]) rfl h13 (Or.inl h14) ⟨Nat.le_of_ble_eq_true rfl, Nat.le_of_ble_eq_true rfl, Nat.le_of_ble_eq_true rfl⟩ h15
theorem b_195_153 {d : Nat} {Q : (Option Value ⊕ Nat) → mi_H → Prop} (n sl : Nat) (f : Nat → mi_C) {l1 : Nat} {l2 : Int32} {s3 : Int32} (h4 : s3 = (0 : Int32) → mi_W d 195 160 [some (.ref l1), some (.int l2)] [] (n, sl, f) Q) (h5 : ¬ (s3 = (0 : Int32)) → mi_W d 195 156 [some (.ref l1), some (.int l2)] [] (n, sl, f) Q) : mi_W d 195 153 [some (.ref l1), some (.int l2)] [.int s3] (n, sl, f) Q := by
  exact w_ifeq cd_195_153 (by decide) h4 h5
theorem b_195_156 {d : Nat} {Q : (Option Value ⊕ Nat) → mi_H → Prop} (n sl : Nat) (f : Nat → mi_C) {l1 : Nat} {l2 : Int32} (h3 : mi_W d 195 161 [some (.ref l1), some (.int l2)] [.int 1] (n, sl, f) Q) : mi_W d 195 156 [some (.ref l1), some (.int l2)] [] (n, sl, f) Q := by
  refine w_iconst (v := 1) cd_195_156 (by decide) ?_
  exact w_goto cd_195_157 (by decide) h3
theorem b_195_160 {d : Nat} {Q : (Option Value ⊕ Nat) → mi_H → Prop} (n sl : Nat) (f : Nat → mi_C) {l1 : Nat} {l2 : Int32} (h3 : mi_W d 195 161 [some (.ref l1), some (.int l2)] [.int 0] (n, sl, f) Q) : mi_W d 195 160 [some (.ref l1), some (.int l2)] [] (n, sl, f) Q := by
  refine w_iconst (v := 0) cd_195_160 (by decide) ?_
  exact h3
theorem b_195_161 {d : Nat} {Q : (Option Value ⊕ Nat) → mi_H → Prop} (n sl : Nat) (f : Nat → mi_C) {l1 : Nat} {l2 : Int32} {s3 : Int32} (h4 : s3 = 0 ∨ s3 = 1) (h5 : Q (.inl (some (.int s3))) (n, sl, f)) : mi_W d 195 161 [some (.ref l1), some (.int l2)] [.int s3] (n, sl, f) Q := by
  exact w_ireturn_z cd_195_161 (by decide +kernel) h4 h5
theorem b_195_162 {d : Nat} {Q : (Option Value ⊕ Nat) → mi_H → Prop} (n sl : Nat) (f : Nat → mi_C) {l1 : Nat} {l2 : Int32} {fs3 : List Value} {x6 : Nat} (m8 i8 : Nat) (g8 : Nat → Int32) {fs12 : List Value} (h4 : f l1 = .inr (12, fs3)) (h5 : l1 < n) (h7 : fs3[13]? = some (.ref x6)) (h9 : f x6 = .inl (0, m8, .inl g8)) (h10 : x6 < n ∨ x6 = mi_SC) (h11 : mi_ix l2 m8 i8) (h13 : f l1 = .inr (12, fs12)) (h14 : l1 < n) (h15 : mi_W d 195 0 (mi_en 2 [.ref l1, .int (g8 i8)]) [] (n, sl, f) (mi_Kc d 195 169 [some (.ref l1), some (.int l2)] [] Q)) : mi_W (d + 1) 195 162 [some (.ref l1), some (.int l2)] [] (n, sl, f) Q := by
  refine w_aload_n cd_195_162 rfl ?_
  refine w_aload_n cd_195_163 rfl ?_
  refine w_getfield cd_195_164 (show mt_f 12 80 = some (12, 13) by decide +kernel) h4 h5 h7 ?_
  refine w_iload_n cd_195_167 rfl ?_
  refine w_iaload cd_195_168 h9 h10 h11 ?_
  exact w_invokevirtual cd_195_169 (show mt_m 12 554 = some (195, 0) by decide +kernel) (rest := []) rfl (as := [.ref l1, .int (g8 i8)]) rfl h13 (Or.inl h14) ⟨Nat.le_of_ble_eq_true rfl, Nat.le_of_ble_eq_true rfl, Nat.le_of_ble_eq_true rfl⟩ h15
theorem b_195_172 {d : Nat} {Q : (Option Value ⊕ Nat) → mi_H → Prop} (n sl : Nat) (f : Nat → mi_C) {l1 : Nat} {l2 : Int32} {s3 : Int32} (h4 : ¬ s3 = (0 : Int32) → mi_W d 195 188 [some (.ref l1), some (.int l2)] [] (n, sl, f) Q) (h5 : ¬ (¬ s3 = (0 : Int32)) → mi_W d 195 175 [some (.ref l1), some (.int l2)] [] (n, sl, f) Q) : mi_W d 195 172 [some (.ref l1), some (.int l2)] [.int s3] (n, sl, f) Q := by
  exact w_ifne cd_195_172 (by decide) h4 h5
theorem b_195_175 {d : Nat} {Q : (Option Value ⊕ Nat) → mi_H → Prop} (n sl : Nat) (f : Nat → mi_C) {l1 : Nat} {l2 : Int32} {fs3 : List Value} {x6 : Nat} (m8 i8 : Nat) (g8 : Nat → Int32) {fs12 : List Value} (h4 : f l1 = .inr (12, fs3)) (h5 : l1 < n) (h7 : fs3[14]? = some (.ref x6)) (h9 : f x6 = .inl (0, m8, .inl g8)) (h10 : x6 < n ∨ x6 = mi_SC) (h11 : mi_ix l2 m8 i8) (h13 : f l1 = .inr (12, fs12)) (h14 : l1 < n) (h15 : mi_W d 195 0 (mi_en 2 [.ref l1, .int (g8 i8)]) [] (n, sl, f) (mi_Kc d 195 182 [some (.ref l1), some (.int l2)] [] Q)) : mi_W (d + 1) 195 175 [some (.ref l1), some (.int l2)] [] (n, sl, f) Q := by
  refine w_aload_n cd_195_175 rfl ?_
  refine w_aload_n cd_195_176 rfl ?_
  refine w_getfield cd_195_177 (show mt_f 12 83 = some (12, 14) by decide +kernel) h4 h5 h7 ?_
  refine w_iload_n cd_195_180 rfl ?_
  refine w_iaload cd_195_181 h9 h10 h11 ?_
  exact w_invokevirtual cd_195_182 (show mt_m 12 554 = some (195, 0) by decide +kernel) (rest := []) rfl (as := [.ref l1, .int (g8 i8)]) rfl h13 (Or.inl h14) ⟨Nat.le_of_ble_eq_true rfl, Nat.le_of_ble_eq_true rfl, Nat.le_of_ble_eq_true rfl⟩ h15
theorem b_195_185 {d : Nat} {Q : (Option Value ⊕ Nat) → mi_H → Prop} (n sl : Nat) (f : Nat → mi_C) {l1 : Nat} {l2 : Int32} {s3 : Int32} (h4 : s3 = (0 : Int32) → mi_W d 195 192 [some (.ref l1), some (.int l2)] [] (n, sl, f) Q) (h5 : ¬ (s3 = (0 : Int32)) → mi_W d 195 188 [some (.ref l1), some (.int l2)] [] (n, sl, f) Q) : mi_W d 195 185 [some (.ref l1), some (.int l2)] [.int s3] (n, sl, f) Q := by
  exact w_ifeq cd_195_185 (by decide) h4 h5
theorem b_195_188 {d : Nat} {Q : (Option Value ⊕ Nat) → mi_H → Prop} (n sl : Nat) (f : Nat → mi_C) {l1 : Nat} {l2 : Int32} (h3 : mi_W d 195 193 [some (.ref l1), some (.int l2)] [.int 1] (n, sl, f) Q) : mi_W d 195 188 [some (.ref l1), some (.int l2)] [] (n, sl, f) Q := by
  refine w_iconst (v := 1) cd_195_188 (by decide) ?_
  exact w_goto cd_195_189 (by decide) h3
theorem b_195_192 {d : Nat} {Q : (Option Value ⊕ Nat) → mi_H → Prop} (n sl : Nat) (f : Nat → mi_C) {l1 : Nat} {l2 : Int32} (h3 : mi_W d 195 193 [some (.ref l1), some (.int l2)] [.int 0] (n, sl, f) Q) : mi_W d 195 192 [some (.ref l1), some (.int l2)] [] (n, sl, f) Q := by
  refine w_iconst (v := 0) cd_195_192 (by decide) ?_
  exact h3
theorem b_195_193 {d : Nat} {Q : (Option Value ⊕ Nat) → mi_H → Prop} (n sl : Nat) (f : Nat → mi_C) {l1 : Nat} {l2 : Int32} {s3 : Int32} (h4 : s3 = 0 ∨ s3 = 1) (h5 : Q (.inl (some (.int s3))) (n, sl, f)) : mi_W d 195 193 [some (.ref l1), some (.int l2)] [.int s3] (n, sl, f) Q := by
  exact w_ireturn_z cd_195_193 (by decide +kernel) h4 h5
theorem b_195_194 {d : Nat} {Q : (Option Value ⊕ Nat) → mi_H → Prop} (n sl : Nat) (f : Nat → mi_C) {l1 : Nat} {l2 : Int32} (h3 : Q (.inl (some (.int 0))) (n, sl, f)) : mi_W d 195 194 [some (.ref l1), some (.int l2)] [] (n, sl, f) Q := by
  refine w_iconst (v := 0) cd_195_194 (by decide) ?_
  exact w_ireturn_z cd_195_195 (by decide +kernel) (by decide) h3
/-! MarloweHostModel.goOn(LMarloweHostModel$State;)I -/
set_option maxRecDepth 100000 in
theorem mq_196 : mt_q 196 = my_196 := rfl
set_option maxRecDepth 100000 in
theorem ci_196 : mt_inc 0 my_196.cd = true := by decide +kernel
theorem cd_196_0 : mt_cd 196 0 = some (.aload_n 0) := mt_cd_of (q := (0, .aload_n 0, 1)) mq_196 ci_196 (List.mem_append_left _ (show _ ∈ my_196_0 from List.mem_of_getElem? (i := 0) rfl))
theorem cd_196_1 : mt_cd 196 1 = some (.getfield 229) := mt_cd_of (q := (1, .getfield 229, 3)) mq_196 ci_196 (List.mem_append_left _ (show _ ∈ my_196_0 from List.mem_of_getElem? (i := 1) rfl))
theorem cd_196_4 : mt_cd 196 4 = some (.aload_n 0) := mt_cd_of (q := (4, .aload_n 0, 1)) mq_196 ci_196 (List.mem_append_left _ (show _ ∈ my_196_0 from List.mem_of_getElem? (i := 2) rfl))
theorem cd_196_5 : mt_cd 196 5 = some (.getfield 568) := mt_cd_of (q := (5, .getfield 568, 3)) mq_196 ci_196 (List.mem_append_left _ (show _ ∈ my_196_0 from List.mem_of_getElem? (i := 3) rfl))
theorem cd_196_8 : mt_cd 196 8 = some (.aaload) := mt_cd_of (q := (8, .aaload, 1)) mq_196 ci_196 (List.mem_append_left _ (show _ ∈ my_196_0 from List.mem_of_getElem? (i := 4) rfl))
theorem cd_196_9 : mt_cd 196 9 = some (.ifnonnull 19) := mt_cd_of (q := (9, .ifnonnull 19, 3)) mq_196 ci_196 (List.mem_append_left _ (show _ ∈ my_196_0 from List.mem_of_getElem? (i := 5) rfl))
theorem cd_196_12 : mt_cd 196 12 = some (.aload_n 0) := mt_cd_of (q := (12, .aload_n 0, 1)) mq_196 ci_196 (List.mem_append_left _ (show _ ∈ my_196_0 from List.mem_of_getElem? (i := 6) rfl))
theorem cd_196_13 : mt_cd 196 13 = some (.getfield 229) := mt_cd_of (q := (13, .getfield 229, 3)) mq_196 ci_196 (List.mem_append_left _ (show _ ∈ my_196_0 from List.mem_of_getElem? (i := 7) rfl))
theorem cd_196_16 : mt_cd 196 16 = some (.aload_n 0) := mt_cd_of (q := (16, .aload_n 0, 1)) mq_196 ci_196 (List.mem_append_left _ (show _ ∈ my_196_0 from List.mem_of_getElem? (i := 8) rfl))
theorem cd_196_17 : mt_cd 196 17 = some (.getfield 568) := mt_cd_of (q := (17, .getfield 568, 3)) mq_196 ci_196 (List.mem_append_left _ (show _ ∈ my_196_0 from List.mem_of_getElem? (i := 9) rfl))
theorem cd_196_20 : mt_cd 196 20 = some (.new 144) := mt_cd_of (q := (20, .new 144, 3)) mq_196 ci_196 (List.mem_append_left _ (show _ ∈ my_196_0 from List.mem_of_getElem? (i := 10) rfl))
theorem cd_196_23 : mt_cd 196 23 = some (.dup) := mt_cd_of (q := (23, .dup, 1)) mq_196 ci_196 (List.mem_append_left _ (show _ ∈ my_196_0 from List.mem_of_getElem? (i := 11) rfl))
theorem cd_196_24 : mt_cd 196 24 = some (.invokespecial 146) := mt_cd_of (q := (24, .invokespecial 146, 3)) mq_196 ci_196 (List.mem_append_left _ (show _ ∈ my_196_0 from List.mem_of_getElem? (i := 12) rfl))
theorem cd_196_27 : mt_cd 196 27 = some (.aastore) := mt_cd_of (q := (27, .aastore, 1)) mq_196 ci_196 (List.mem_append_left _ (show _ ∈ my_196_0 from List.mem_of_getElem? (i := 13) rfl))
theorem cd_196_28 : mt_cd 196 28 = some (.aload_n 0) := mt_cd_of (q := (28, .aload_n 0, 1)) mq_196 ci_196 (List.mem_append_left _ (show _ ∈ my_196_0 from List.mem_of_getElem? (i := 14) rfl))
theorem cd_196_29 : mt_cd 196 29 = some (.getfield 229) := mt_cd_of (q := (29, .getfield 229, 3)) mq_196 ci_196 (List.mem_append_left _ (show _ ∈ my_196_0 from List.mem_of_getElem? (i := 15) rfl))
theorem cd_196_32 : mt_cd 196 32 = some (.aload_n 0) := mt_cd_of (q := (32, .aload_n 0, 1)) mq_196 ci_196 (List.mem_append_left _ (show _ ∈ my_196_0 from List.mem_of_getElem? (i := 16) rfl))
theorem cd_196_33 : mt_cd 196 33 = some (.getfield 568) := mt_cd_of (q := (33, .getfield 568, 3)) mq_196 ci_196 (List.mem_append_left _ (show _ ∈ my_196_0 from List.mem_of_getElem? (i := 17) rfl))
theorem cd_196_36 : mt_cd 196 36 = some (.aaload) := mt_cd_of (q := (36, .aaload, 1)) mq_196 ci_196 (List.mem_append_left _ (show _ ∈ my_196_0 from List.mem_of_getElem? (i := 18) rfl))
theorem cd_196_37 : mt_cd 196 37 = some (.astore_n 2) := mt_cd_of (q := (37, .astore_n 2, 1)) mq_196 ci_196 (List.mem_append_left _ (show _ ∈ my_196_0 from List.mem_of_getElem? (i := 19) rfl))
theorem cd_196_38 : mt_cd 196 38 = some (.aload_n 0) := mt_cd_of (q := (38, .aload_n 0, 1)) mq_196 ci_196 (List.mem_append_left _ (show _ ∈ my_196_0 from List.mem_of_getElem? (i := 20) rfl))
theorem cd_196_39 : mt_cd 196 39 = some (.aload_n 2) := mt_cd_of (q := (39, .aload_n 2, 1)) mq_196 ci_196 (List.mem_append_left _ (show _ ∈ my_196_0 from List.mem_of_getElem? (i := 21) rfl))
theorem cd_196_40 : mt_cd 196 40 = some (.putfield 445) := mt_cd_of (q := (40, .putfield 445, 3)) mq_196 ci_196 (List.mem_append_left _ (show _ ∈ my_196_0 from List.mem_of_getElem? (i := 22) rfl))
theorem cd_196_43 : mt_cd 196 43 = some (.aload_n 2) := mt_cd_of (q := (43, .aload_n 2, 1)) mq_196 ci_196 (List.mem_append_left _ (show _ ∈ my_196_0 from List.mem_of_getElem? (i := 23) rfl))
theorem cd_196_44 : mt_cd 196 44 = some (.aload_n 1) := mt_cd_of (q := (44, .aload_n 1, 1)) mq_196 ci_196 (List.mem_append_left _ (show _ ∈ my_196_0 from List.mem_of_getElem? (i := 24) rfl))
theorem cd_196_45 : mt_cd 196 45 = some (.invokevirtual 525) := mt_cd_of (q := (45, .invokevirtual 525, 3)) mq_196 ci_196 (List.mem_append_left _ (show _ ∈ my_196_0 from List.mem_of_getElem? (i := 25) rfl))
theorem cd_196_48 : mt_cd 196 48 = some (.aload_n 0) := mt_cd_of (q := (48, .aload_n 0, 1)) mq_196 ci_196 (List.mem_append_left _ (show _ ∈ my_196_0 from List.mem_of_getElem? (i := 26) rfl))
theorem cd_196_49 : mt_cd 196 49 = some (.aload_n 1) := mt_cd_of (q := (49, .aload_n 1, 1)) mq_196 ci_196 (List.mem_append_left _ (show _ ∈ my_196_0 from List.mem_of_getElem? (i := 27) rfl))
theorem cd_196_50 : mt_cd 196 50 = some (.getfield 516) := mt_cd_of (q := (50, .getfield 516, 3)) mq_196 ci_196 (List.mem_append_left _ (show _ ∈ my_196_0 from List.mem_of_getElem? (i := 28) rfl))
theorem cd_196_53 : mt_cd 196 53 = some (.aload_n 1) := mt_cd_of (q := (53, .aload_n 1, 1)) mq_196 ci_196 (List.mem_append_left _ (show _ ∈ my_196_0 from List.mem_of_getElem? (i := 29) rfl))
theorem cd_196_54 : mt_cd 196 54 = some (.getfield 516) := mt_cd_of (q := (54, .getfield 516, 3)) mq_196 ci_196 (List.mem_append_left _ (show _ ∈ my_196_0 from List.mem_of_getElem? (i := 30) rfl))
theorem cd_196_57 : mt_cd 196 57 = some (.iconst 0) := mt_cd_of (q := (57, .iconst 0, 1)) mq_196 ci_196 (List.mem_append_left _ (show _ ∈ my_196_0 from List.mem_of_getElem? (i := 31) rfl))
theorem cd_196_58 : mt_cd 196 58 = some (.invokevirtual 529) := mt_cd_of (q := (58, .invokevirtual 529, 3)) mq_196 ci_196 (List.mem_append_left _ (show _ ∈ my_196_0 from List.mem_of_getElem? (i := 32) rfl))
theorem cd_196_61 : mt_cd 196 61 = some (.istore_n 3) := mt_cd_of (q := (61, .istore_n 3, 1)) mq_196 ci_196 (List.mem_append_left _ (show _ ∈ my_196_0 from List.mem_of_getElem? (i := 33) rfl))
theorem cd_196_62 : mt_cd 196 62 = some (.iload_n 3) := mt_cd_of (q := (62, .iload_n 3, 1)) mq_196 ci_196 (List.mem_append_left _ (show _ ∈ my_196_0 from List.mem_of_getElem? (i := 34) rfl))
theorem cd_196_63 : mt_cd 196 63 = some (.iconst 5) := mt_cd_of (q := (63, .iconst 5, 1)) mq_196 ci_196 (List.mem_append_left _ (show _ ∈ my_196_0 from List.mem_of_getElem? (i := 35) rfl))
theorem cd_196_64 : mt_cd 196 64 = some (.if_icmp .eq 13) := mt_cd_of (q := (64, .if_icmp .eq 13, 3)) mq_196 ci_196 (List.mem_append_left _ (show _ ∈ my_196_0 from List.mem_of_getElem? (i := 36) rfl))
theorem cd_196_67 : mt_cd 196 67 = some (.aload_n 0) := mt_cd_of (q := (67, .aload_n 0, 1)) mq_196 ci_196 (List.mem_append_left _ (show _ ∈ my_196_0 from List.mem_of_getElem? (i := 37) rfl))
theorem cd_196_68 : mt_cd 196 68 = some (.aload_n 2) := mt_cd_of (q := (68, .aload_n 2, 1)) mq_196 ci_196 (List.mem_append_left _ (show _ ∈ my_196_0 from List.mem_of_getElem? (i := 38) rfl))
theorem cd_196_69 : mt_cd 196 69 = some (.iload_n 3) := mt_cd_of (q := (69, .iload_n 3, 1)) mq_196 ci_196 (List.mem_append_left _ (show _ ∈ my_196_0 from List.mem_of_getElem? (i := 39) rfl))
theorem cd_196_70 : mt_cd 196 70 = some (.iconst 0) := mt_cd_of (q := (70, .iconst 0, 1)) mq_196 ci_196 (List.mem_append_left _ (show _ ∈ my_196_0 from List.mem_of_getElem? (i := 40) rfl))
theorem cd_196_71 : mt_cd 196 71 = some (.lconst 0) := mt_cd_of (q := (71, .lconst 0, 1)) mq_196 ci_196 (List.mem_append_left _ (show _ ∈ my_196_0 from List.mem_of_getElem? (i := 41) rfl))
theorem cd_196_72 : mt_cd 196 72 = some (.iconst (-1)) := mt_cd_of (q := (72, .iconst (-1), 1)) mq_196 ci_196 (List.mem_append_left _ (show _ ∈ my_196_0 from List.mem_of_getElem? (i := 42) rfl))
theorem cd_196_73 : mt_cd 196 73 = some (.invokevirtual 575) := mt_cd_of (q := (73, .invokevirtual 575, 3)) mq_196 ci_196 (List.mem_append_left _ (show _ ∈ my_196_0 from List.mem_of_getElem? (i := 43) rfl))
theorem cd_196_76 : mt_cd 196 76 = some (.ireturn) := mt_cd_of (q := (76, .ireturn, 1)) mq_196 ci_196 (List.mem_append_left _ (show _ ∈ my_196_0 from List.mem_of_getElem? (i := 44) rfl))
theorem cd_196_77 : mt_cd 196 77 = some (.aload_n 0) := mt_cd_of (q := (77, .aload_n 0, 1)) mq_196 ci_196 (List.mem_append_left _ (show _ ∈ my_196_0 from List.mem_of_getElem? (i := 45) rfl))
theorem cd_196_78 : mt_cd 196 78 = some (.getfield 77) := mt_cd_of (q := (78, .getfield 77, 3)) mq_196 ci_196 (List.mem_append_left _ (show _ ∈ my_196_0 from List.mem_of_getElem? (i := 46) rfl))
theorem cd_196_81 : mt_cd 196 81 = some (.aload_n 1) := mt_cd_of (q := (81, .aload_n 1, 1)) mq_196 ci_196 (List.mem_append_left _ (show _ ∈ my_196_0 from List.mem_of_getElem? (i := 47) rfl))
theorem cd_196_82 : mt_cd 196 82 = some (.getfield 496) := mt_cd_of (q := (82, .getfield 496, 3)) mq_196 ci_196 (List.mem_append_left _ (show _ ∈ my_196_0 from List.mem_of_getElem? (i := 48) rfl))
theorem cd_196_85 : mt_cd 196 85 = some (.iaload) := mt_cd_of (q := (85, .iaload, 1)) mq_196 ci_196 (List.mem_append_left _ (show _ ∈ my_196_0 from List.mem_of_getElem? (i := 49) rfl))
theorem cd_196_86 : mt_cd 196 86 = some (.iconst 4) := mt_cd_of (q := (86, .iconst 4, 1)) mq_196 ci_196 (List.mem_append_left _ (show _ ∈ my_196_0 from List.mem_of_getElem? (i := 50) rfl))
theorem cd_196_87 : mt_cd 196 87 = some (.if_icmp .eq 5) := mt_cd_of (q := (87, .if_icmp .eq 5, 3)) mq_196 ci_196 (List.mem_append_left _ (show _ ∈ my_196_0 from List.mem_of_getElem? (i := 51) rfl))
theorem cd_196_90 : mt_cd 196 90 = some (.iconst 0) := mt_cd_of (q := (90, .iconst 0, 1)) mq_196 ci_196 (List.mem_append_left _ (show _ ∈ my_196_0 from List.mem_of_getElem? (i := 52) rfl))
theorem cd_196_91 : mt_cd 196 91 = some (.ireturn) := mt_cd_of (q := (91, .ireturn, 1)) mq_196 ci_196 (List.mem_append_left _ (show _ ∈ my_196_0 from List.mem_of_getElem? (i := 53) rfl))
theorem cd_196_92 : mt_cd 196 92 = some (.aload_n 0) := mt_cd_of (q := (92, .aload_n 0, 1)) mq_196 ci_196 (List.mem_append_left _ (show _ ∈ my_196_0 from List.mem_of_getElem? (i := 54) rfl))
theorem cd_196_93 : mt_cd 196 93 = some (.getfield 92) := mt_cd_of (q := (93, .getfield 92, 3)) mq_196 ci_196 (List.mem_append_left _ (show _ ∈ my_196_0 from List.mem_of_getElem? (i := 55) rfl))
theorem cd_196_96 : mt_cd 196 96 = some (.aload_n 1) := mt_cd_of (q := (96, .aload_n 1, 1)) mq_196 ci_196 (List.mem_append_left _ (show _ ∈ my_196_0 from List.mem_of_getElem? (i := 56) rfl))
theorem cd_196_97 : mt_cd 196 97 = some (.getfield 496) := mt_cd_of (q := (97, .getfield 496, 3)) mq_196 ci_196 (List.mem_append_left _ (show _ ∈ my_196_0 from List.mem_of_getElem? (i := 57) rfl))
theorem cd_196_100 : mt_cd 196 100 = some (.iaload) := mt_cd_of (q := (100, .iaload, 1)) mq_196 ci_196 (List.mem_append_left _ (show _ ∈ my_196_0 from List.mem_of_getElem? (i := 58) rfl))
theorem cd_196_101 : mt_cd 196 101 = some (.istore 4) := mt_cd_of (q := (101, .istore 4, 2)) mq_196 ci_196 (List.mem_append_left _ (show _ ∈ my_196_0 from List.mem_of_getElem? (i := 59) rfl))
theorem cd_196_103 : mt_cd 196 103 = some (.iload 4) := mt_cd_of (q := (103, .iload 4, 2)) mq_196 ci_196 (List.mem_append_right _ ((show _ ∈ my_196_1 from List.mem_of_getElem? (i := 0) rfl)))
theorem cd_196_105 : mt_cd 196 105 = some (.ifCond .lt 56) := mt_cd_of (q := (105, .ifCond .lt 56, 3)) mq_196 ci_196 (List.mem_append_right _ ((show _ ∈ my_196_1 from List.mem_of_getElem? (i := 1) rfl)))
theorem cd_196_108 : mt_cd 196 108 = some (.aload_n 0) := mt_cd_of (q := (108, .aload_n 0, 1)) mq_196 ci_196 (List.mem_append_right _ ((show _ ∈ my_196_1 from List.mem_of_getElem? (i := 2) rfl)))
theorem cd_196_109 : mt_cd 196 109 = some (.getfield 77) := mt_cd_of (q := (109, .getfield 77, 3)) mq_196 ci_196 (List.mem_append_right _ ((show _ ∈ my_196_1 from List.mem_of_getElem? (i := 3) rfl)))
theorem cd_196_112 : mt_cd 196 112 = some (.iload 4) := mt_cd_of (q := (112, .iload 4, 2)) mq_196 ci_196 (List.mem_append_right _ ((show _ ∈ my_196_1 from List.mem_of_getElem? (i := 4) rfl)))
theorem cd_196_114 : mt_cd 196 114 = some (.iaload) := mt_cd_of (q := (114, .iaload, 1)) mq_196 ci_196 (List.mem_append_right _ ((show _ ∈ my_196_1 from List.mem_of_getElem? (i := 5) rfl)))
theorem cd_196_115 : mt_cd 196 115 = some (.bipush 8) := mt_cd_of (q := (115, .bipush 8, 2)) mq_196 ci_196 (List.mem_append_right _ ((show _ ∈ my_196_1 from List.mem_of_getElem? (i := 6) rfl)))
theorem cd_196_117 : mt_cd 196 117 = some (.if_icmp .ne 14) := mt_cd_of (q := (117, .if_icmp .ne 14, 3)) mq_196 ci_196 (List.mem_append_right _ ((show _ ∈ my_196_1 from List.mem_of_getElem? (i := 7) rfl)))
theorem cd_196_120 : mt_cd 196 120 = some (.aload_n 0) := mt_cd_of (q := (120, .aload_n 0, 1)) mq_196 ci_196 (List.mem_append_right _ ((show _ ∈ my_196_1 from List.mem_of_getElem? (i := 8) rfl)))
theorem cd_196_121 : mt_cd 196 121 = some (.aload_n 1) := mt_cd_of (q := (121, .aload_n 1, 1)) mq_196 ci_196 (List.mem_append_right _ ((show _ ∈ my_196_1 from List.mem_of_getElem? (i := 9) rfl)))
theorem cd_196_122 : mt_cd 196 122 = some (.aload_n 2) := mt_cd_of (q := (122, .aload_n 2, 1)) mq_196 ci_196 (List.mem_append_right _ ((show _ ∈ my_196_1 from List.mem_of_getElem? (i := 10) rfl)))
theorem cd_196_123 : mt_cd 196 123 = some (.iload 4) := mt_cd_of (q := (123, .iload 4, 2)) mq_196 ci_196 (List.mem_append_right _ ((show _ ∈ my_196_1 from List.mem_of_getElem? (i := 11) rfl)))
theorem cd_196_125 : mt_cd 196 125 = some (.invokevirtual 579) := mt_cd_of (q := (125, .invokevirtual 579, 3)) mq_196 ci_196 (List.mem_append_right _ ((show _ ∈ my_196_1 from List.mem_of_getElem? (i := 12) rfl)))
theorem cd_196_128 : mt_cd 196 128 = some (.goto 11) := mt_cd_of (q := (128, .goto 11, 3)) mq_196 ci_196 (List.mem_append_right _ ((show _ ∈ my_196_1 from List.mem_of_getElem? (i := 13) rfl)))
theorem cd_196_131 : mt_cd 196 131 = some (.aload_n 0) := mt_cd_of (q := (131, .aload_n 0, 1)) mq_196 ci_196 (List.mem_append_right _ ((show _ ∈ my_196_1 from List.mem_of_getElem? (i := 14) rfl)))
theorem cd_196_132 : mt_cd 196 132 = some (.aload_n 1) := mt_cd_of (q := (132, .aload_n 1, 1)) mq_196 ci_196 (List.mem_append_right _ ((show _ ∈ my_196_1 from List.mem_of_getElem? (i := 15) rfl)))
theorem cd_196_133 : mt_cd 196 133 = some (.aload_n 2) := mt_cd_of (q := (133, .aload_n 2, 1)) mq_196 ci_196 (List.mem_append_right _ ((show _ ∈ my_196_1 from List.mem_of_getElem? (i := 16) rfl)))
theorem cd_196_134 : mt_cd 196 134 = some (.iload 4) := mt_cd_of (q := (134, .iload 4, 2)) mq_196 ci_196 (List.mem_append_right _ ((show _ ∈ my_196_1 from List.mem_of_getElem? (i := 17) rfl)))
theorem cd_196_136 : mt_cd 196 136 = some (.invokevirtual 583) := mt_cd_of (q := (136, .invokevirtual 583, 3)) mq_196 ci_196 (List.mem_append_right _ ((show _ ∈ my_196_1 from List.mem_of_getElem? (i := 18) rfl)))
theorem cd_196_139 : mt_cd 196 139 = some (.istore 5) := mt_cd_of (q := (139, .istore 5, 2)) mq_196 ci_196 (List.mem_append_right _ ((show _ ∈ my_196_1 from List.mem_of_getElem? (i := 19) rfl)))
theorem cd_196_141 : mt_cd 196 141 = some (.iload 5) := mt_cd_of (q := (141, .iload 5, 2)) mq_196 ci_196 (List.mem_append_right _ ((show _ ∈ my_196_1 from List.mem_of_getElem? (i := 20) rfl)))
theorem cd_196_143 : mt_cd 196 143 = some (.ifCond .eq 6) := mt_cd_of (q := (143, .ifCond .eq 6, 3)) mq_196 ci_196 (List.mem_append_right _ ((show _ ∈ my_196_1 from List.mem_of_getElem? (i := 21) rfl)))
theorem cd_196_146 : mt_cd 196 146 = some (.iload 5) := mt_cd_of (q := (146, .iload 5, 2)) mq_196 ci_196 (List.mem_append_right _ ((show _ ∈ my_196_1 from List.mem_of_getElem? (i := 22) rfl)))
theorem cd_196_148 : mt_cd 196 148 = some (.ireturn) := mt_cd_of (q := (148, .ireturn, 1)) mq_196 ci_196 (List.mem_append_right _ ((show _ ∈ my_196_1 from List.mem_of_getElem? (i := 23) rfl)))
theorem cd_196_149 : mt_cd 196 149 = some (.aload_n 0) := mt_cd_of (q := (149, .aload_n 0, 1)) mq_196 ci_196 (List.mem_append_right _ ((show _ ∈ my_196_1 from List.mem_of_getElem? (i := 24) rfl)))
theorem cd_196_150 : mt_cd 196 150 = some (.getfield 138) := mt_cd_of (q := (150, .getfield 138, 3)) mq_196 ci_196 (List.mem_append_right _ ((show _ ∈ my_196_1 from List.mem_of_getElem? (i := 25) rfl)))
theorem cd_196_153 : mt_cd 196 153 = some (.iload 4) := mt_cd_of (q := (153, .iload 4, 2)) mq_196 ci_196 (List.mem_append_right _ ((show _ ∈ my_196_1 from List.mem_of_getElem? (i := 26) rfl)))
theorem cd_196_155 : mt_cd 196 155 = some (.iaload) := mt_cd_of (q := (155, .iaload, 1)) mq_196 ci_196 (List.mem_append_right _ ((show _ ∈ my_196_1 from List.mem_of_getElem? (i := 27) rfl)))
theorem cd_196_156 : mt_cd 196 156 = some (.istore 4) := mt_cd_of (q := (156, .istore 4, 2)) mq_196 ci_196 (List.mem_append_right _ ((show _ ∈ my_196_1 from List.mem_of_getElem? (i := 28) rfl)))
theorem cd_196_158 : mt_cd 196 158 = some (.goto (-55)) := mt_cd_of (q := (158, .goto (-55), 3)) mq_196 ci_196 (List.mem_append_right _ ((show _ ∈ my_196_1 from List.mem_of_getElem? (i := 29) rfl)))
theorem cd_196_161 : mt_cd 196 161 = some (.aload_n 2) := mt_cd_of (q := (161, .aload_n 2, 1)) mq_196 ci_196 (List.mem_append_right _ ((show _ ∈ my_196_1 from List.mem_of_getElem? (i := 30) rfl)))
theorem cd_196_162 : mt_cd 196 162 = some (.aload_n 1) := mt_cd_of (q := (162, .aload_n 1, 1)) mq_196 ci_196 (List.mem_append_right _ ((show _ ∈ my_196_1 from List.mem_of_getElem? (i := 31) rfl)))
theorem cd_196_163 : mt_cd 196 163 = some (.invokevirtual 525) := mt_cd_of (q := (163, .invokevirtual 525, 3)) mq_196 ci_196 (List.mem_append_right _ ((show _ ∈ my_196_1 from List.mem_of_getElem? (i := 32) rfl)))
theorem cd_196_166 : mt_cd 196 166 = some (.aload_n 0) := mt_cd_of (q := (166, .aload_n 0, 1)) mq_196 ci_196 (List.mem_append_right _ ((show _ ∈ my_196_1 from List.mem_of_getElem? (i := 33) rfl)))
theorem cd_196_167 : mt_cd 196 167 = some (.aload_n 2) := mt_cd_of (q := (167, .aload_n 2, 1)) mq_196 ci_196 (List.mem_append_right _ ((show _ ∈ my_196_1 from List.mem_of_getElem? (i := 34) rfl)))
theorem cd_196_168 : mt_cd 196 168 = some (.putfield 445) := mt_cd_of (q := (168, .putfield 445, 3)) mq_196 ci_196 (List.mem_append_right _ ((show _ ∈ my_196_1 from List.mem_of_getElem? (i := 35) rfl)))
theorem cd_196_171 : mt_cd 196 171 = some (.aload_n 0) := mt_cd_of (q := (171, .aload_n 0, 1)) mq_196 ci_196 (List.mem_append_right _ ((show _ ∈ my_196_1 from List.mem_of_getElem? (i := 36) rfl)))
theorem cd_196_172 : mt_cd 196 172 = some (.getfield 101) := mt_cd_of (q := (172, .getfield 101, 3)) mq_196 ci_196 (List.mem_append_right _ ((show _ ∈ my_196_1 from List.mem_of_getElem? (i := 37) rfl)))
theorem cd_196_175 : mt_cd 196 175 = some (.aload_n 1) := mt_cd_of (q := (175, .aload_n 1, 1)) mq_196 ci_196 (List.mem_append_right _ ((show _ ∈ my_196_1 from List.mem_of_getElem? (i := 38) rfl)))
theorem cd_196_176 : mt_cd 196 176 = some (.getfield 496) := mt_cd_of (q := (176, .getfield 496, 3)) mq_196 ci_196 (List.mem_append_right _ ((show _ ∈ my_196_1 from List.mem_of_getElem? (i := 39) rfl)))
theorem cd_196_179 : mt_cd 196 179 = some (.laload) := mt_cd_of (q := (179, .laload, 1)) mq_196 ci_196 (List.mem_append_right _ ((show _ ∈ my_196_1 from List.mem_of_getElem? (i := 40) rfl)))
theorem cd_196_180 : mt_cd 196 180 = some (.lstore 4) := mt_cd_of (q := (180, .lstore 4, 2)) mq_196 ci_196 (List.mem_append_right _ ((show _ ∈ my_196_1 from List.mem_of_getElem? (i := 41) rfl)))
theorem cd_196_182 : mt_cd 196 182 = some (.aload_n 0) := mt_cd_of (q := (182, .aload_n 0, 1)) mq_196 ci_196 (List.mem_append_right _ ((show _ ∈ my_196_1 from List.mem_of_getElem? (i := 42) rfl)))
theorem cd_196_183 : mt_cd 196 183 = some (.lload 4) := mt_cd_of (q := (183, .lload 4, 2)) mq_196 ci_196 (List.mem_append_right _ ((show _ ∈ my_196_1 from List.mem_of_getElem? (i := 43) rfl)))
theorem cd_196_185 : mt_cd 196 185 = some (.lload 4) := mt_cd_of (q := (185, .lload 4, 2)) mq_196 ci_196 (List.mem_append_right _ ((show _ ∈ my_196_1 from List.mem_of_getElem? (i := 44) rfl)))
theorem cd_196_187 : mt_cd 196 187 = some (.iconst 0) := mt_cd_of (q := (187, .iconst 0, 1)) mq_196 ci_196 (List.mem_append_right _ ((show _ ∈ my_196_1 from List.mem_of_getElem? (i := 45) rfl)))
theorem cd_196_188 : mt_cd 196 188 = some (.invokevirtual 529) := mt_cd_of (q := (188, .invokevirtual 529, 3)) mq_196 ci_196 (List.mem_append_right _ ((show _ ∈ my_196_1 from List.mem_of_getElem? (i := 46) rfl)))
theorem cd_196_191 : mt_cd 196 191 = some (.istore_n 3) := mt_cd_of (q := (191, .istore_n 3, 1)) mq_196 ci_196 (List.mem_append_right _ ((show _ ∈ my_196_1 from List.mem_of_getElem? (i := 47) rfl)))
theorem cd_196_192 : mt_cd 196 192 = some (.aload_n 0) := mt_cd_of (q := (192, .aload_n 0, 1)) mq_196 ci_196 (List.mem_append_right _ ((show _ ∈ my_196_1 from List.mem_of_getElem? (i := 48) rfl)))
theorem cd_196_193 : mt_cd 196 193 = some (.aload_n 2) := mt_cd_of (q := (193, .aload_n 2, 1)) mq_196 ci_196 (List.mem_append_right _ ((show _ ∈ my_196_1 from List.mem_of_getElem? (i := 49) rfl)))
theorem cd_196_194 : mt_cd 196 194 = some (.iload_n 3) := mt_cd_of (q := (194, .iload_n 3, 1)) mq_196 ci_196 (List.mem_append_right _ ((show _ ∈ my_196_1 from List.mem_of_getElem? (i := 50) rfl)))
theorem cd_196_195 : mt_cd 196 195 = some (.iconst 4) := mt_cd_of (q := (195, .iconst 4, 1)) mq_196 ci_196 (List.mem_append_right _ ((show _ ∈ my_196_1 from List.mem_of_getElem? (i := 51) rfl)))
theorem cd_196_196 : mt_cd 196 196 = some (.lload 4) := mt_cd_of (q := (196, .lload 4, 2)) mq_196 ci_196 (List.mem_append_right _ ((show _ ∈ my_196_1 from List.mem_of_getElem? (i := 52) rfl)))
theorem cd_196_198 : mt_cd 196 198 = some (.iconst (-1)) := mt_cd_of (q := (198, .iconst (-1), 1)) mq_196 ci_196 (List.mem_append_right _ ((show _ ∈ my_196_1 from List.mem_of_getElem? (i := 53) rfl)))
theorem cd_196_199 : mt_cd 196 199 = some (.invokevirtual 575) := mt_cd_of (q := (199, .invokevirtual 575, 3)) mq_196 ci_196 (List.mem_append_right _ ((show _ ∈ my_196_1 from List.mem_of_getElem? (i := 54) rfl)))
theorem cd_196_202 : mt_cd 196 202 = some (.ireturn) := mt_cd_of (q := (202, .ireturn, 1)) mq_196 ci_196 (List.mem_append_right _ ((show _ ∈ my_196_1 from List.mem_of_getElem? (i := 55) rfl)))
theorem b_196_0 {d : Nat} {Q : (Option Value ⊕ Nat) → mi_H → Prop} (n sl : Nat) (f : Nat → mi_C) {l1 : Nat} {l2 : Nat} {o3 : Option Value} {o4 : Option Value} {o5 : Option Value} {o6 : Option Value} {fs7 : List Value} {x10 : Nat} {fs12 : List Value} {x15 : Int32} (m17 i17 ka17 : Nat) (g17 : Nat → Option Nat) {w22 : Value} (h8 : f l1 = .inr (12, fs7)) (h9 : l1 < n) (h11 : fs7[82]? = some (.ref x10)) (h13 : f l1 = .inr (12, fs12)) (h14 : l1 < n) (h16 : fs12[74]? = some (.int x15)) (h18 : f x10 = .inl (ka17, m17, .inr (.inr (.inr (.inr g17))))) (h19 : x10 < n) (h20 : 4 ≤ ka17 ∧ ka17 < mt_na) (h21 : mi_ix x15 m17 i17) (h23 : va_rf (g17 i17) = w22) (h24 : w22 = .null → mi_W d 196 12 [some (.ref l1), some (.ref l2), o3, o4, o5, o6] [] (n, sl, f) Q) (h25 : ∀ q : Nat, w22 = .ref q → mi_W d 196 28 [some (.ref l1), some (.ref l2), o3, o4, o5, o6] [] (n, sl, f) Q) (h26 : w22.isRef = true) : mi_W d 196 0 [some (.ref l1), some (.ref l2), o3, o4, o5, o6] [] (n, sl, f) Q := by
  refine w_aload_n cd_196_0 rfl ?_
  refine w_getfield cd_196_1 (show mt_f 12 229 = some (12, 82) by decide +kernel) h8 h9 h11 ?_
  refine w_aload_n cd_196_4 rfl ?_
  refine w_getfield cd_196_5 (show mt_f 12 568 = some (12, 74) by decide +kernel) h13 h14 h16 ?_
  refine w_aaload (w := w22) cd_196_8 h18 h19 h20 h21 h23 ?_
  
  cases w22 with
  | null => exact w_ifnonnull_n cd_196_9 (h24 rfl)
  | ref q => exact w_ifnonnull_r cd_196_9 (by decide) (h25 q rfl)
  | _ => cases h26
theorem b_196_12 {d : Nat} {Q : (Option Value ⊕ Nat) → mi_H → Prop} (n sl : Nat) (f : Nat → mi_C) {l1 : Nat} {l2 : Nat} {o3 : Option Value} {o4 : Option Value} {o5 : Option Value} {o6 : Option Value} {fs7 : List Value} {x10 : Nat} {fs12 : List Value} {x15 : Int32} (h8 : f l1 = .inr (12, fs7)) (h9 : l1 < n) (h11 : fs7[82]? = some (.ref x10)) (h13 : f l1 = .inr (12, fs12)) (h14 : l1 < n) (h16 : fs12[74]? = some (.int x15)) (h17 : n + 1 ≤ mi_NC ∧ sl + 7 ≤ mi_NS) (h18 : n < (n + 1)) (h19 : mi_W d 136 0 (mi_en 1 [.ref n]) [] ((n + 1), (sl + 7), (va_up f n (.inr (13, mt_df 13)))) (mi_Kc d 196 24 [some (.ref l1), some (.ref l2), o3, o4, o5, o6] [.ref n, .int x15, .ref x10] Q)) : mi_W (d + 1) 196 12 [some (.ref l1), some (.ref l2), o3, o4, o5, o6] [] (n, sl, f) Q := by
  refine w_aload_n cd_196_12 rfl ?_
  refine w_getfield cd_196_13 (show mt_f 12 229 = some (12, 82) by decide +kernel) h8 h9 h11 ?_
  refine w_aload_n cd_196_16 rfl ?_
  refine w_getfield cd_196_17 (show mt_f 12 568 = some (12, 74) by decide +kernel) h13 h14 h16 ?_
  refine w_new cd_196_20 (show mt_c 12 144 = some 13 by decide +kernel) (by decide) h17 ?_
  refine w_dup_r cd_196_23 ?_
  exact w_invokespecial cd_196_24 (show mt_m 12 146 = some (136, 3) by decide +kernel) (Or.inr rfl) (by decide) (rest := [.ref n, .int x15, .ref x10]) rfl (as := [.ref n]) rfl h18 ⟨Nat.le_of_ble_eq_true rfl, Nat.le_of_ble_eq_true rfl, Nat.le_of_ble_eq_true rfl⟩ h19
theorem b_196_27 {d : Nat} {Q : (Option Value ⊕ Nat) → mi_H → Prop} (n sl : Nat) (f : Nat → mi_C) {l1 : Nat} {l2 : Nat} {o3 : Option Value} {o4 : Option Value} {o5 : Option Value} {o6 : Option Value} {s7 : Nat} {s8 : Int32} {s9 : Nat} (m10 i10 ka10 ci10 : Nat) (g10 : Nat → Option Nat) (fs10 : List Value) (h11 : s9 < n) (h12 : mi_ix s8 m10 i10) (h13 : f s9 = .inl (ka10, m10, .inr (.inr (.inr (.inr g10))))) (h14 : f s7 = .inr (ci10, fs10)) (h15 : s7 < n) (h16 : mt_ac ka10 = some ci10) (h17 : mi_W d 196 28 [some (.ref l1), some (.ref l2), o3, o4, o5, o6] [] (n, sl, (va_up f s9 (.inl (ka10, m10, .inr (.inr (.inr (.inr (va_up g10 i10 (some s7))))))))) Q) : mi_W d 196 27 [some (.ref l1), some (.ref l2), o3, o4, o5, o6] [.ref s7, .int s8, .ref s9] (n, sl, f) Q := by
  refine w_aastore cd_196_27 h13 h11 h14 h15 h16 h12 ?_
  exact h17
theorem b_196_28 {d : Nat} {Q : (Option Value ⊕ Nat) → mi_H → Prop} (n sl : Nat) (f : Nat → mi_C) {l1 : Nat} {l2 : Nat} {o3 : Option Value} {o4 : Option Value} {o5 : Option Value} {o6 : Option Value} {fs7 : List Value} {x10 : Nat} {fs12 : List Value} {x15 : Int32} (m17 i17 ka17 : Nat) (g17 : Nat → Option Nat) {x22 : Nat} {fs24 : List Value} {fs28 : List Value} (h8 : f l1 = .inr (12, fs7)) (h9 : l1 < n) (h11 : fs7[82]? = some (.ref x10)) (h13 : f l1 = .inr (12, fs12)) (h14 : l1 < n) (h16 : fs12[74]? = some (.int x15)) (h18 : f x10 = .inl (ka17, m17, .inr (.inr (.inr (.inr g17))))) (h19 : x10 < n) (h20 : 4 ≤ ka17 ∧ ka17 < mt_na) (h21 : mi_ix x15 m17 i17) (h23 : g17 i17 = some x22) (h25 : f l1 = .inr (12, fs24)) (h26 : l1 < n) (h27 : 43 < fs24.length) (h29 : (va_up f l1 (.inr (12, fs24.set 43 (.ref x22)))) x22 = .inr (13, fs28)) (h30 : x22 < n) (h31 : mi_W d 172 0 (mi_en 3 [.ref x22, .ref l2]) [] (n, sl, (va_up f l1 (.inr (12, fs24.set 43 (.ref x22))))) (mi_Kc d 196 45 [some (.ref l1), some (.ref l2), some (.ref x22), o4, o5, o6] [] Q)) : mi_W (d + 1) 196 28 [some (.ref l1), some (.ref l2), o3, o4, o5, o6] [] (n, sl, f) Q := by
  refine w_aload_n cd_196_28 rfl ?_
  refine w_getfield cd_196_29 (show mt_f 12 229 = some (12, 82) by decide +kernel) h8 h9 h11 ?_
  refine w_aload_n cd_196_32 rfl ?_
  refine w_getfield cd_196_33 (show mt_f 12 568 = some (12, 74) by decide +kernel) h13 h14 h16 ?_
  refine w_aaload (w := .ref x22) cd_196_36 h18 h19 h20 h21 (by rw [h23]; rfl) ?_
  refine w_astore_n (ls' := [some (.ref l1), some (.ref l2), some (.ref x22), o4, o5, o6]) cd_196_37 (Nat.le_of_ble_eq_true rfl) rfl ?_
  refine w_aload_n cd_196_38 rfl ?_
  refine w_aload_n cd_196_39 rfl ?_
  refine w_putfield (w := .ref x22) cd_196_40 (show mt_f 12 445 = some (12, 43) by decide +kernel) h25 h26 ⟨h27, rfl, Or.inl (by decide)⟩ ?_
  refine w_aload_n cd_196_43 rfl ?_
  refine w_aload_n cd_196_44 rfl ?_
  exact w_invokevirtual cd_196_45 (show mt_m 12 525 = some (172, 0) by decide +kernel) (rest := []) rfl (as := [.ref x22, .ref l2]) rfl h29 (Or.inl h30) ⟨Nat.le_of_ble_eq_true rfl, Nat.le_of_ble_eq_true rfl, Nat.le_of_ble_eq_true rfl⟩ h31
theorem b_196_48 {d : Nat} {Q : (Option Value ⊕ Nat) → mi_H → Prop} (n sl : Nat) (f : Nat → mi_C) {l1 : Nat} {l2 : Nat} {l3 : Nat} {o4 : Option Value} {o5 : Option Value} {o6 : Option Value} {fs7 : List Value} {x10 : Int64} {fs12 : List Value} {x15 : Int64} {fs17 : List Value} (h8 : f l2 = .inr (13, fs7)) (h9 : l2 < n) (h11 : fs7[1]? = some (.long x10)) (h13 : f l2 = .inr (13, fs12)) (h14 : l2 < n) (h16 : fs12[1]? = some (.long x15)) (h18 : f l1 = .inr (12, fs17)) (h19 : l1 < n) (h20 : mi_W d 173 0 (mi_en 8 [.ref l1, .long x10, .long x15, .int 0]) [] (n, sl, f) (mi_Kc d 196 58 [some (.ref l1), some (.ref l2), some (.ref l3), o4, o5, o6] [] Q)) : mi_W (d + 1) 196 48 [some (.ref l1), some (.ref l2), some (.ref l3), o4, o5, o6] [] (n, sl, f) Q := by
  refine w_aload_n cd_196_48 rfl ?_
  refine w_aload_n cd_196_49 rfl ?_
  refine w_getfield cd_196_50 (show mt_f 12 516 = some (13, 1) by decide +kernel) h8 h9 h11 ?_
  refine w_aload_n cd_196_53 rfl ?_
  refine w_getfield cd_196_54 (show mt_f 12 516 = some (13, 1) by decide +kernel) h13 h14 h16 ?_
  refine w_iconst (v := 0) cd_196_57 (by decide) ?_
  exact w_invokevirtual cd_196_58 (show mt_m 12 529 = some (173, 0) by decide +kernel) (rest := []) rfl (as := [.ref l1, .long x10, .long x15, .int 0]) rfl h18 (Or.inl h19) ⟨Nat.le_of_ble_eq_true rfl, Nat.le_of_ble_eq_true rfl, Nat.le_of_ble_eq_true rfl⟩ h20
theorem b_196_61 {d : Nat} {Q : (Option Value ⊕ Nat) → mi_H → Prop} (n sl : Nat) (f : Nat → mi_C) {l1 : Nat} {l2 : Nat} {l3 : Nat} {o4 : Option Value} {o5 : Option Value} {o6 : Option Value} {s7 : Int32} (h8 : s7 = 5 → mi_W d 196 77 [some (.ref l1), some (.ref l2), some (.ref l3), some (.int s7), o5, o6] [] (n, sl, f) Q) (h9 : ¬ (s7 = 5) → mi_W d 196 67 [some (.ref l1), some (.ref l2), some (.ref l3), some (.int s7), o5, o6] [] (n, sl, f) Q) : mi_W d 196 61 [some (.ref l1), some (.ref l2), some (.ref l3), o4, o5, o6] [.int s7] (n, sl, f) Q := by
  refine w_istore_n (ls' := [some (.ref l1), some (.ref l2), some (.ref l3), some (.int s7), o5, o6]) cd_196_61 (Nat.le_of_ble_eq_true rfl) rfl ?_
  refine w_iload_n cd_196_62 rfl ?_
  refine w_iconst (v := 5) cd_196_63 (by decide) ?_
  exact w_if_icmpeq cd_196_64 (by decide) h8 h9
theorem b_196_67 {d : Nat} {Q : (Option Value ⊕ Nat) → mi_H → Prop} (n sl : Nat) (f : Nat → mi_C) {l1 : Nat} {l2 : Nat} {l3 : Nat} {l4 : Int32} {o5 : Option Value} {o6 : Option Value} {fs7 : List Value} (h8 : f l1 = .inr (12, fs7)) (h9 : l1 < n) (h10 : mi_W d 197 0 (mi_en 8 [.ref l1, .ref l3, .int l4, .int 0, .long 0, .int (-1)]) [] (n, sl, f) (mi_Kc d 196 73 [some (.ref l1), some (.ref l2), some (.ref l3), some (.int l4), o5, o6] [] Q)) : mi_W (d + 1) 196 67 [some (.ref l1), some (.ref l2), some (.ref l3), some (.int l4), o5, o6] [] (n, sl, f) Q := by
  refine w_aload_n cd_196_67 rfl ?_
  refine w_aload_n cd_196_68 rfl ?_
  refine w_iload_n cd_196_69 rfl ?_
  refine w_iconst (v := 0) cd_196_70 (by decide) ?_
  refine w_lconst (lv := 0) cd_196_71 (by decide) ?_
  refine w_iconst (v := (-1)) cd_196_72 (by decide) ?_
  exact w_invokevirtual cd_196_73 (show mt_m 12 575 = some (197, 0) by decide +kernel) (rest := []) rfl (as := [.ref l1, .ref l3, .int l4, .int 0, .long 0, .int (-1)]) rfl h8 (Or.inl h9) ⟨Nat.le_of_ble_eq_true rfl, Nat.le_of_ble_eq_true rfl, Nat.le_of_ble_eq_true rfl⟩ h10
theorem b_196_76 {d : Nat} {Q : (Option Value ⊕ Nat) → mi_H → Prop} (n sl : Nat) (f : Nat → mi_C) {l1 : Nat} {l2 : Nat} {l3 : Nat} {l4 : Int32} {o5 : Option Value} {o6 : Option Value} {s7 : Int32} (h8 : Q (.inl (some (.int s7))) (n, sl, f)) : mi_W d 196 76 [some (.ref l1), some (.ref l2), some (.ref l3), some (.int l4), o5, o6] [.int s7] (n, sl, f) Q := by
  exact w_ireturn_i cd_196_76 (by decide +kernel) h8
theorem b_196_77 {d : Nat} {Q : (Option Value ⊕ Nat) → mi_H → Prop} (n sl : Nat) (f : Nat → mi_C) {l1 : Nat} {l2 : Nat} {l3 : Nat} {l4 : Int32} {o5 : Option Value} {o6 : Option Value} {fs7 : List Value} {x10 : Nat} {fs12 : List Value} {x15 : Int32} (m17 i17 : Nat) (g17 : Nat → Int32) (h8 : f l1 = .inr (12, fs7)) (h9 : l1 < n) (h11 : fs7[12]? = some (.ref x10)) (h13 : f l2 = .inr (13, fs12)) (h14 : l2 < n) (h16 : fs12[0]? = some (.int x15)) (h18 : f x10 = .inl (0, m17, .inl g17)) (h19 : x10 < n ∨ x10 = mi_SC) (h20 : mi_ix x15 m17 i17) (h21 : (g17 i17) = 4 → mi_W d 196 92 [some (.ref l1), some (.ref l2), some (.ref l3), some (.int l4), o5, o6] [] (n, sl, f) Q) (h22 : ¬ ((g17 i17) = 4) → mi_W d 196 90 [some (.ref l1), some (.ref l2), some (.ref l3), some (.int l4), o5, o6] [] (n, sl, f) Q) : mi_W d 196 77 [some (.ref l1), some (.ref l2), some (.ref l3), some (.int l4), o5, o6] [] (n, sl, f) Q := by
  refine w_aload_n cd_196_77 rfl ?_
  refine w_getfield cd_196_78 (show mt_f 12 77 = some (12, 12) by decide +kernel) h8 h9 h11 ?_
  refine w_aload_n cd_196_81 rfl ?_
  refine w_getfield cd_196_82 (show mt_f 12 496 = some (13, 0) by decide +kernel) h13 h14 h16 ?_
  refine w_iaload cd_196_85 h18 h19 h20 ?_
  refine w_iconst (v := 4) cd_196_86 (by decide) ?_
  exact w_if_icmpeq cd_196_87 (by decide) h21 h22
theorem b_196_90 {d : Nat} {Q : (Option Value ⊕ Nat) → mi_H → Prop} (n sl : Nat) (f : Nat → mi_C) {l1 : Nat} {l2 : Nat} {l3 : Nat} {l4 : Int32} {o5 : Option Value} {o6 : Option Value} (h7 : Q (.inl (some (.int 0))) (n, sl, f)) : mi_W d 196 90 [some (.ref l1), some (.ref l2), some (.ref l3), some (.int l4), o5, o6] [] (n, sl, f) Q := by
  refine w_iconst (v := 0) cd_196_90 (by decide) ?_
  exact w_ireturn_i cd_196_91 (by decide +kernel) h7
theorem b_196_92 {d : Nat} {Q : (Option Value ⊕ Nat) → mi_H → Prop} (n sl : Nat) (f : Nat → mi_C) {l1 : Nat} {l2 : Nat} {l3 : Nat} {l4 : Int32} {o5 : Option Value} {o6 : Option Value} {fs7 : List Value} {x10 : Nat} {fs12 : List Value} {x15 : Int32} (m17 i17 : Nat) (g17 : Nat → Int32) (h8 : f l1 = .inr (12, fs7)) (h9 : l1 < n) (h11 : fs7[17]? = some (.ref x10)) (h13 : f l2 = .inr (13, fs12)) (h14 : l2 < n) (h16 : fs12[0]? = some (.int x15)) (h18 : f x10 = .inl (0, m17, .inl g17)) (h19 : x10 < n ∨ x10 = mi_SC) (h20 : mi_ix x15 m17 i17) (h21 : mi_W d 196 103 [some (.ref l1), some (.ref l2), some (.ref l3), some (.int l4), some (.int (g17 i17)), o6] [] (n, sl, f) Q) : mi_W d 196 92 [some (.ref l1), some (.ref l2), some (.ref l3), some (.int l4), o5, o6] [] (n, sl, f) Q := by
  refine w_aload_n cd_196_92 rfl ?_
  refine w_getfield cd_196_93 (show mt_f 12 92 = some (12, 17) by decide +kernel) h8 h9 h11 ?_
  refine w_aload_n cd_196_96 rfl ?_
  refine w_getfield cd_196_97 (show mt_f 12 496 = some (13, 0) by decide +kernel) h13 h14 h16 ?_
  refine w_iaload cd_196_100 h18 h19 h20 ?_
  refine w_istore (ls' := [some (.ref l1), some (.ref l2), some (.ref l3), some (.int l4), some (.int (g17 i17)), o6]) cd_196_101 (Nat.le_of_ble_eq_true rfl) rfl ?_
  exact h21
theorem b_196_103 {d : Nat} {Q : (Option Value ⊕ Nat) → mi_H → Prop} (n sl : Nat) (f : Nat → mi_C) {l1 : Nat} {l2 : Nat} {l3 : Nat} {l4 : Int32} {l5 : Int32} {o6 : Option Value} (h7 : l5 < (0 : Int32) → mi_W d 196 161 [some (.ref l1), some (.ref l2), some (.ref l3), some (.int l4), some (.int l5), o6] [] (n, sl, f) Q) (h8 : ¬ (l5 < (0 : Int32)) → mi_W d 196 108 [some (.ref l1), some (.ref l2), some (.ref l3), some (.int l4), some (.int l5), o6] [] (n, sl, f) Q) : mi_W d 196 103 [some (.ref l1), some (.ref l2), some (.ref l3), some (.int l4), some (.int l5), o6] [] (n, sl, f) Q := by
  refine w_iload cd_196_103 rfl ?_
  exact w_iflt cd_196_105 (by decide) h7 h8
theorem b_196_108 {d : Nat} {Q : (Option Value ⊕ Nat) → mi_H → Prop} (n sl : Nat) (f : Nat → mi_C) {l1 : Nat} {l2 : Nat} {l3 : Nat} {l4 : Int32} {l5 : Int32} {o6 : Option Value} {fs7 : List Value} {x10 : Nat} (m12 i12 : Nat) (g12 : Nat → Int32) (h8 : f l1 = .inr (12, fs7)) (h9 : l1 < n) (h11 : fs7[12]? = some (.ref x10)) (h13 : f x10 = .inl (0, m12, .inl g12)) (h14 : x10 < n ∨ x10 = mi_SC) (h15 : mi_ix l5 m12 i12) (h16 : ¬ (g12 i12) = 8 → mi_W d 196 131 [some (.ref l1), some (.ref l2), some (.ref l3), some (.int l4), some (.int l5), o6] [] (n, sl, f) Q) (h17 : ¬ (¬ (g12 i12) = 8) → mi_W d 196 120 [some (.ref l1), some (.ref l2), some (.ref l3), some (.int l4), some (.int l5), o6] [] (n, sl, f) Q) : mi_W d 196 108 [some (.ref l1), some (.ref l2), some (.ref l3), some (.int l4), some (.int l5), o6] [] (n, sl, f) Q := by
  refine w_aload_n cd_196_108 rfl ?_
  refine w_getfield cd_196_109 (show mt_f 12 77 = some (12, 12) by decide +kernel) h8 h9 h11 ?_
  refine w_iload cd_196_112 rfl ?_
  refine w_iaload cd_196_114 h13 h14 h15 ?_
  refine w_bipush (v := 8) cd_196_115 (by decide) ?_
  exact w_if_icmpne cd_196_117 (by decide) h16 h17
theorem b_196_120 {d : Nat} {Q : (Option Value ⊕ Nat) → mi_H → Prop} (n sl : Nat) (f : Nat → mi_C) {l1 : Nat} {l2 : Nat} {l3 : Nat} {l4 : Int32} {l5 : Int32} {o6 : Option Value} {fs7 : List Value} (h8 : f l1 = .inr (12, fs7)) (h9 : l1 < n) (h10 : mi_W d 198 0 (mi_en 8 [.ref l1, .ref l2, .ref l3, .int l5]) [] (n, sl, f) (mi_Kc d 196 125 [some (.ref l1), some (.ref l2), some (.ref l3), some (.int l4), some (.int l5), o6] [] Q)) : mi_W (d + 1) 196 120 [some (.ref l1), some (.ref l2), some (.ref l3), some (.int l4), some (.int l5), o6] [] (n, sl, f) Q := by
  refine w_aload_n cd_196_120 rfl ?_
  refine w_aload_n cd_196_121 rfl ?_
  refine w_aload_n cd_196_122 rfl ?_
  refine w_iload cd_196_123 rfl ?_
  exact w_invokevirtual cd_196_125 (show mt_m 12 579 = some (198, 0) by decide +kernel) (rest := []) rfl (as := [.ref l1, .ref l2, .ref l3, .int l5]) rfl h8 (Or.inl h9) ⟨Nat.le_of_ble_eq_true rfl, Nat.le_of_ble_eq_true rfl, Nat.le_of_ble_eq_true rfl⟩ h10
theorem b_196_128 {d : Nat} {Q : (Option Value ⊕ Nat) → mi_H → Prop} (n sl : Nat) (f : Nat → mi_C) {l1 : Nat} {l2 : Nat} {l3 : Nat} {l4 : Int32} {l5 : Int32} {o6 : Option Value} {s7 : Int32} (h8 : mi_W d 196 139 [some (.ref l1), some (.ref l2), some (.ref l3), some (.int l4), some (.int l5), o6] [.int s7] (n, sl, f) Q) : mi_W d 196 128 [some (.ref l1), some (.ref l2), some (.ref l3), some (.int l4), some (.int l5), o6] [.int s7] (n, sl, f) Q := by
  exact w_goto cd_196_128 (by decide) h8
theorem b_196_131 {d : Nat} {Q : (Option Value ⊕ Nat) → mi_H → Prop} (n sl : Nat) (f : Nat → mi_C) {l1 : Nat} {l2 : Nat} {l3 : Nat} {l4 : Int32} {l5 : Int32} {o6 : Option Value} {fs7 : List Value} (h8 : f l1 = .inr (12, fs7)) (h9 : l1 < n) (h10 : mi_W d 200 0 (mi_en 6 [.ref l1, .ref l2, .ref l3, .int l5]) [] (n, sl, f) (mi_Kc d 196 136 [some (.ref l1), some (.ref l2), some (.ref l3), some (.int l4), some (.int l5), o6] [] Q)) : mi_W (d + 1) 196 131 [some (.ref l1), some (.ref l2), some (.ref l3), some (.int l4), some (.int l5), o6] [] (n, sl, f) Q := by
  refine w_aload_n cd_196_131 rfl ?_
  refine w_aload_n cd_196_132 rfl ?_
  refine w_aload_n cd_196_133 rfl ?_
  refine w_iload cd_196_134 rfl ?_
  exact w_invokevirtual cd_196_136 (show mt_m 12 583 = some (200, 0) by decide +kernel) (rest := []) rfl (as := [.ref l1, .ref l2, .ref l3, .int l5]) rfl h8 (Or.inl h9) ⟨Nat.le_of_ble_eq_true rfl, Nat.le_of_ble_eq_true rfl, Nat.le_of_ble_eq_true rfl⟩ h10
theorem b_196_139 {d : Nat} {Q : (Option Value ⊕ Nat) → mi_H → Prop} (n sl : Nat) (f : Nat → mi_C) {l1 : Nat} {l2 : Nat} {l3 : Nat} {l4 : Int32} {l5 : Int32} {o6 : Option Value} {s7 : Int32} (h8 : s7 = (0 : Int32) → mi_W d 196 149 [some (.ref l1), some (.ref l2), some (.ref l3), some (.int l4), some (.int l5), some (.int s7)] [] (n, sl, f) Q) (h9 : ¬ (s7 = (0 : Int32)) → mi_W d 196 146 [some (.ref l1), some (.ref l2), some (.ref l3), some (.int l4), some (.int l5), some (.int s7)] [] (n, sl, f) Q) : mi_W d 196 139 [some (.ref l1), some (.ref l2), some (.ref l3), some (.int l4), some (.int l5), o6] [.int s7] (n, sl, f) Q := by
  refine w_istore (ls' := [some (.ref l1), some (.ref l2), some (.ref l3), some (.int l4), some (.int l5), some (.int s7)]) cd_196_139 (Nat.le_of_ble_eq_true rfl) rfl ?_
  refine w_iload cd_196_141 rfl ?_
  exact w_ifeq cd_196_143 (by decide) h8 h9
theorem b_196_146 {d : Nat} {Q : (Option Value ⊕ Nat) → mi_H → Prop} (n sl : Nat) (f : Nat → mi_C) {l1 : Nat} {l2 : Nat} {l3 : Nat} {l4 : Int32} {l5 : Int32} {l6 : Int32} (h7 : Q (.inl (some (.int l6))) (n, sl, f)) : mi_W d 196 146 [some (.ref l1), some (.ref l2), some (.ref l3), some (.int l4), some (.int l5), some (.int l6)] [] (n, sl, f) Q := by
  refine w_iload cd_196_146 rfl ?_
  exact w_ireturn_i cd_196_148 (by decide +kernel) h7
theorem b_196_149 {d : Nat} {Q : (Option Value ⊕ Nat) → mi_H → Prop} (n sl : Nat) (f : Nat → mi_C) {l1 : Nat} {l2 : Nat} {l3 : Nat} {l4 : Int32} {l5 : Int32} {l6 : Int32} {fs7 : List Value} {x10 : Nat} (m12 i12 : Nat) (g12 : Nat → Int32) (h8 : f l1 = .inr (12, fs7)) (h9 : l1 < n) (h11 : fs7[39]? = some (.ref x10)) (h13 : f x10 = .inl (0, m12, .inl g12)) (h14 : x10 < n ∨ x10 = mi_SC) (h15 : mi_ix l5 m12 i12) (h16 : mi_W d 196 103 [some (.ref l1), some (.ref l2), some (.ref l3), some (.int l4), some (.int (g12 i12)), some (.int l6)] [] (n, sl, f) Q) : mi_W d 196 149 [some (.ref l1), some (.ref l2), some (.ref l3), some (.int l4), some (.int l5), some (.int l6)] [] (n, sl, f) Q := by
  refine w_aload_n cd_196_149 rfl ?_
  refine w_getfield cd_196_150 (show mt_f 12 138 = some (12, 39) by decide +kernel) h8 h9 h11 ?_
  refine w_iload cd_196_153 rfl ?_
  refine w_iaload cd_196_155 h13 h14 h15 ?_
  refine w_istore (ls' := [some (.ref l1), some (.ref l2), some (.ref l3), some (.int l4), some (.int (g12 i12)), some (.int l6)]) cd_196_156 (Nat.le_of_ble_eq_true rfl) rfl ?_
  exact w_goto cd_196_158 (by decide) h16
theorem b_196_161 {d : Nat} {Q : (Option Value ⊕ Nat) → mi_H → Prop} (n sl : Nat) (f : Nat → mi_C) {l1 : Nat} {l2 : Nat} {l3 : Nat} {l4 : Int32} {l5 : Int32} {o6 : Option Value} {fs7 : List Value} (h8 : f l3 = .inr (13, fs7)) (h9 : l3 < n) (h10 : mi_W d 172 0 (mi_en 3 [.ref l3, .ref l2]) [] (n, sl, f) (mi_Kc d 196 163 [some (.ref l1), some (.ref l2), some (.ref l3), some (.int l4), some (.int l5), o6] [] Q)) : mi_W (d + 1) 196 161 [some (.ref l1), some (.ref l2), some (.ref l3), some (.int l4), some (.int l5), o6] [] (n, sl, f) Q := by
  refine w_aload_n cd_196_161 rfl ?_
  refine w_aload_n cd_196_162 rfl ?_
  exact w_invokevirtual cd_196_163 (show mt_m 12 525 = some (172, 0) by decide +kernel) (rest := []) rfl (as := [.ref l3, .ref l2]) rfl h8 (Or.inl h9) ⟨Nat.le_of_ble_eq_true rfl, Nat.le_of_ble_eq_true rfl, Nat.le_of_ble_eq_true rfl⟩ h10
theorem b_196_166 {d : Nat} {Q : (Option Value ⊕ Nat) → mi_H → Prop} (n sl : Nat) (f : Nat → mi_C) {l1 : Nat} {l2 : Nat} {l3 : Nat} {l4 : Int32} {l5 : Int32} {o6 : Option Value} {fs7 : List Value} {fs11 : List Value} {x14 : Nat} {fs16 : List Value} {x19 : Int32} (m21 i21 : Nat) (g21 : Nat → Int64) {fs25 : List Value} (h8 : f l1 = .inr (12, fs7)) (h9 : l1 < n) (h10 : 43 < fs7.length) (h12 : (va_up f l1 (.inr (12, fs7.set 43 (.ref l3)))) l1 = .inr (12, fs11)) (h13 : l1 < n) (h15 : fs11[20]? = some (.ref x14)) (h17 : (va_up f l1 (.inr (12, fs7.set 43 (.ref l3)))) l2 = .inr (13, fs16)) (h18 : l2 < n) (h20 : fs16[0]? = some (.int x19)) (h22 : (va_up f l1 (.inr (12, fs7.set 43 (.ref l3)))) x14 = .inl (3, m21, .inr (.inl g21))) (h23 : x14 < n) (h24 : mi_ix x19 m21 i21) (h26 : (va_up f l1 (.inr (12, fs7.set 43 (.ref l3)))) l1 = .inr (12, fs25)) (h27 : l1 < n) (h28 : mi_W d 173 0 (mi_en 8 [.ref l1, .long (g21 i21), .long (g21 i21), .int 0]) [] (n, sl, (va_up f l1 (.inr (12, fs7.set 43 (.ref l3))))) (mi_Kc d 196 188 [some (.ref l1), some (.ref l2), some (.ref l3), some (.int l4), some (.long (g21 i21)), none] [] Q)) : mi_W (d + 1) 196 166 [some (.ref l1), some (.ref l2), some (.ref l3), some (.int l4), some (.int l5), o6] [] (n, sl, f) Q := by
  refine w_aload_n cd_196_166 rfl ?_
  refine w_aload_n cd_196_167 rfl ?_
  refine w_putfield (w := .ref l3) cd_196_168 (show mt_f 12 445 = some (12, 43) by decide +kernel) h8 h9 ⟨h10, rfl, Or.inl (by decide)⟩ ?_
  refine w_aload_n cd_196_171 rfl ?_
  refine w_getfield cd_196_172 (show mt_f 12 101 = some (12, 20) by decide +kernel) h12 h13 h15 ?_
  refine w_aload_n cd_196_175 rfl ?_
  refine w_getfield cd_196_176 (show mt_f 12 496 = some (13, 0) by decide +kernel) h17 h18 h20 ?_
  refine w_laload cd_196_179 h22 h23 h24 ?_
  refine w_lstore (ls' := [some (.ref l1), some (.ref l2), some (.ref l3), some (.int l4), some (.long (g21 i21)), none]) cd_196_180 (Nat.le_of_ble_eq_true rfl) rfl ?_
  refine w_aload_n cd_196_182 rfl ?_
  refine w_lload cd_196_183 rfl ?_
  refine w_lload cd_196_185 rfl ?_
  refine w_iconst (v := 0) cd_196_187 (by decide) ?_
  exact w_invokevirtual cd_196_188 (show mt_m 12 529 = some (173, 0) by decide +kernel) (rest := []) rfl (as := [.ref l1, .long (g21 i21), .long (g21 i21), .int 0]) rfl h26 (Or.inl h27) ⟨Nat.le_of_ble_eq_true rfl, Nat.le_of_ble_eq_true rfl, Nat.le_of_ble_eq_true rfl⟩ h28
theorem b_196_191 {d : Nat} {Q : (Option Value ⊕ Nat) → mi_H → Prop} (n sl : Nat) (f : Nat → mi_C) {l1 : Nat} {l2 : Nat} {l3 : Nat} {l4 : Int32} {l5 : Int64} {s6 : Int32} {fs7 : List Value} (h8 : f l1 = .inr (12, fs7)) (h9 : l1 < n) (h10 : mi_W d 197 0 (mi_en 8 [.ref l1, .ref l3, .int s6, .int 4, .long l5, .int (-1)]) [] (n, sl, f) (mi_Kc d 196 199 [some (.ref l1), some (.ref l2), some (.ref l3), some (.int s6), some (.long l5), none] [] Q)) : mi_W (d + 1) 196 191 [some (.ref l1), some (.ref l2), some (.ref l3), some (.int l4), some (.long l5), none] [.int s6] (n, sl, f) Q := by
  refine w_istore_n (ls' := [some (.ref l1), some (.ref l2), some (.ref l3), some (.int s6), some (.long l5), none]) cd_196_191 (Nat.le_of_ble_eq_true rfl) rfl ?_
  refine w_aload_n cd_196_192 rfl ?_
  refine w_aload_n cd_196_193 rfl ?_
  refine w_iload_n cd_196_194 rfl ?_
  refine w_iconst (v := 4) cd_196_195 (by decide) ?_
  refine w_lload cd_196_196 rfl ?_
  refine w_iconst (v := (-1)) cd_196_198 (by decide) ?_
  exact w_invokevirtual cd_196_199 (show mt_m 12 575 = some (197, 0) by decide +kernel) (rest := []) rfl (as := [.ref l1, .ref l3, .int s6, .int 4, .long l5, .int (-1)]) rfl h8 (Or.inl h9) ⟨Nat.le_of_ble_eq_true rfl, Nat.le_of_ble_eq_true rfl, Nat.le_of_ble_eq_true rfl⟩ h10
theorem b_196_202 {d : Nat} {Q : (Option Value ⊕ Nat) → mi_H → Prop} (n sl : Nat) (f : Nat → mi_C) {l1 : Nat} {l2 : Nat} {l3 : Nat} {l4 : Int32} {l5 : Int64} {s6 : Int32} (h7 : Q (.inl (some (.int s6))) (n, sl, f)) : mi_W d 196 202 [some (.ref l1), some (.ref l2), some (.ref l3), some (.int l4), some (.long l5), none] [.int s6] (n, sl, f) Q := by
  exact w_ireturn_i cd_196_202 (by decide +kernel) h7
/-! MarloweHostModel.stepped(LMarloweHostModel$State;IIJI)I -/
set_option maxRecDepth 100000 in
theorem mq_197 : mt_q 197 = my_197 := rfl
set_option maxRecDepth 100000 in
theorem ci_197 : mt_inc 0 my_197.cd = true := by decide +kernel
theorem cd_197_0 : mt_cd 197 0 = some (.aload_n 0) := mt_cd_of (q := (0, .aload_n 0, 1)) mq_197 ci_197 (List.mem_of_getElem? (i := 0) rfl)
theorem cd_197_1 : mt_cd 197 1 = some (.dup) := mt_cd_of (q := (1, .dup, 1)) mq_197 ci_197 (List.mem_of_getElem? (i := 1) rfl)
theorem cd_197_2 : mt_cd 197 2 = some (.getfield 562) := mt_cd_of (q := (2, .getfield 562, 3)) mq_197 ci_197 (List.mem_of_getElem? (i := 2) rfl)
theorem cd_197_5 : mt_cd 197 5 = some (.iconst 1) := mt_cd_of (q := (5, .iconst 1, 1)) mq_197 ci_197 (List.mem_of_getElem? (i := 3) rfl)
theorem cd_197_6 : mt_cd 197 6 = some (.iadd) := mt_cd_of (q := (6, .iadd, 1)) mq_197 ci_197 (List.mem_of_getElem? (i := 4) rfl)
theorem cd_197_7 : mt_cd 197 7 = some (.dup_x1) := mt_cd_of (q := (7, .dup_x1, 1)) mq_197 ci_197 (List.mem_of_getElem? (i := 5) rfl)
theorem cd_197_8 : mt_cd 197 8 = some (.putfield 562) := mt_cd_of (q := (8, .putfield 562, 3)) mq_197 ci_197 (List.mem_of_getElem? (i := 6) rfl)
theorem cd_197_11 : mt_cd 197 11 = some (.sipush 5000) := mt_cd_of (q := (11, .sipush 5000, 3)) mq_197 ci_197 (List.mem_of_getElem? (i := 7) rfl)
theorem cd_197_14 : mt_cd 197 14 = some (.if_icmp .le 5) := mt_cd_of (q := (14, .if_icmp .le 5, 3)) mq_197 ci_197 (List.mem_of_getElem? (i := 8) rfl)
theorem cd_197_17 : mt_cd 197 17 = some (.iconst 2) := mt_cd_of (q := (17, .iconst 2, 1)) mq_197 ci_197 (List.mem_of_getElem? (i := 9) rfl)
theorem cd_197_18 : mt_cd 197 18 = some (.ireturn) := mt_cd_of (q := (18, .ireturn, 1)) mq_197 ci_197 (List.mem_of_getElem? (i := 10) rfl)
theorem cd_197_19 : mt_cd 197 19 = some (.iload_n 2) := mt_cd_of (q := (19, .iload_n 2, 1)) mq_197 ci_197 (List.mem_of_getElem? (i := 11) rfl)
theorem cd_197_20 : mt_cd 197 20 = some (.ifCond .eq 5) := mt_cd_of (q := (20, .ifCond .eq 5, 3)) mq_197 ci_197 (List.mem_of_getElem? (i := 12) rfl)
theorem cd_197_23 : mt_cd 197 23 = some (.iconst 0) := mt_cd_of (q := (23, .iconst 0, 1)) mq_197 ci_197 (List.mem_of_getElem? (i := 13) rfl)
theorem cd_197_24 : mt_cd 197 24 = some (.ireturn) := mt_cd_of (q := (24, .ireturn, 1)) mq_197 ci_197 (List.mem_of_getElem? (i := 14) rfl)
theorem cd_197_25 : mt_cd 197 25 = some (.aload_n 0) := mt_cd_of (q := (25, .aload_n 0, 1)) mq_197 ci_197 (List.mem_of_getElem? (i := 15) rfl)
theorem cd_197_26 : mt_cd 197 26 = some (.getfield 211) := mt_cd_of (q := (26, .getfield 211, 3)) mq_197 ci_197 (List.mem_of_getElem? (i := 16) rfl)
theorem cd_197_29 : mt_cd 197 29 = some (.aload_n 0) := mt_cd_of (q := (29, .aload_n 0, 1)) mq_197 ci_197 (List.mem_of_getElem? (i := 17) rfl)
theorem cd_197_30 : mt_cd 197 30 = some (.getfield 568) := mt_cd_of (q := (30, .getfield 568, 3)) mq_197 ci_197 (List.mem_of_getElem? (i := 18) rfl)
theorem cd_197_33 : mt_cd 197 33 = some (.iload_n 3) := mt_cd_of (q := (33, .iload_n 3, 1)) mq_197 ci_197 (List.mem_of_getElem? (i := 19) rfl)
theorem cd_197_34 : mt_cd 197 34 = some (.iastore) := mt_cd_of (q := (34, .iastore, 1)) mq_197 ci_197 (List.mem_of_getElem? (i := 20) rfl)
theorem cd_197_35 : mt_cd 197 35 = some (.aload_n 0) := mt_cd_of (q := (35, .aload_n 0, 1)) mq_197 ci_197 (List.mem_of_getElem? (i := 21) rfl)
theorem cd_197_36 : mt_cd 197 36 = some (.getfield 223) := mt_cd_of (q := (36, .getfield 223, 3)) mq_197 ci_197 (List.mem_of_getElem? (i := 22) rfl)
theorem cd_197_39 : mt_cd 197 39 = some (.aload_n 0) := mt_cd_of (q := (39, .aload_n 0, 1)) mq_197 ci_197 (List.mem_of_getElem? (i := 23) rfl)
theorem cd_197_40 : mt_cd 197 40 = some (.getfield 568) := mt_cd_of (q := (40, .getfield 568, 3)) mq_197 ci_197 (List.mem_of_getElem? (i := 24) rfl)
theorem cd_197_43 : mt_cd 197 43 = some (.lload 4) := mt_cd_of (q := (43, .lload 4, 2)) mq_197 ci_197 (List.mem_of_getElem? (i := 25) rfl)
theorem cd_197_45 : mt_cd 197 45 = some (.lastore) := mt_cd_of (q := (45, .lastore, 1)) mq_197 ci_197 (List.mem_of_getElem? (i := 26) rfl)
theorem cd_197_46 : mt_cd 197 46 = some (.aload_n 0) := mt_cd_of (q := (46, .aload_n 0, 1)) mq_197 ci_197 (List.mem_of_getElem? (i := 27) rfl)
theorem cd_197_47 : mt_cd 197 47 = some (.getfield 214) := mt_cd_of (q := (47, .getfield 214, 3)) mq_197 ci_197 (List.mem_of_getElem? (i := 28) rfl)
theorem cd_197_50 : mt_cd 197 50 = some (.aload_n 0) := mt_cd_of (q := (50, .aload_n 0, 1)) mq_197 ci_197 (List.mem_of_getElem? (i := 29) rfl)
theorem cd_197_51 : mt_cd 197 51 = some (.dup) := mt_cd_of (q := (51, .dup, 1)) mq_197 ci_197 (List.mem_of_getElem? (i := 30) rfl)
theorem cd_197_52 : mt_cd 197 52 = some (.getfield 568) := mt_cd_of (q := (52, .getfield 568, 3)) mq_197 ci_197 (List.mem_of_getElem? (i := 31) rfl)
theorem cd_197_55 : mt_cd 197 55 = some (.dup_x1) := mt_cd_of (q := (55, .dup_x1, 1)) mq_197 ci_197 (List.mem_of_getElem? (i := 32) rfl)
theorem cd_197_56 : mt_cd 197 56 = some (.iconst 1) := mt_cd_of (q := (56, .iconst 1, 1)) mq_197 ci_197 (List.mem_of_getElem? (i := 33) rfl)
theorem cd_197_57 : mt_cd 197 57 = some (.iadd) := mt_cd_of (q := (57, .iadd, 1)) mq_197 ci_197 (List.mem_of_getElem? (i := 34) rfl)
theorem cd_197_58 : mt_cd 197 58 = some (.putfield 568) := mt_cd_of (q := (58, .putfield 568, 3)) mq_197 ci_197 (List.mem_of_getElem? (i := 35) rfl)
theorem cd_197_61 : mt_cd 197 61 = some (.iload 6) := mt_cd_of (q := (61, .iload 6, 2)) mq_197 ci_197 (List.mem_of_getElem? (i := 36) rfl)
theorem cd_197_63 : mt_cd 197 63 = some (.iastore) := mt_cd_of (q := (63, .iastore, 1)) mq_197 ci_197 (List.mem_of_getElem? (i := 37) rfl)
theorem cd_197_64 : mt_cd 197 64 = some (.aload_n 0) := mt_cd_of (q := (64, .aload_n 0, 1)) mq_197 ci_197 (List.mem_of_getElem? (i := 38) rfl)
theorem cd_197_65 : mt_cd 197 65 = some (.getfield 490) := mt_cd_of (q := (65, .getfield 490, 3)) mq_197 ci_197 (List.mem_of_getElem? (i := 39) rfl)
theorem cd_197_68 : mt_cd 197 68 = some (.ifCond .le 83) := mt_cd_of (q := (68, .ifCond .le 83, 3)) mq_197 ci_197 (List.mem_of_getElem? (i := 40) rfl)
theorem cd_197_71 : mt_cd 197 71 = some (.aload_n 0) := mt_cd_of (q := (71, .aload_n 0, 1)) mq_197 ci_197 (List.mem_of_getElem? (i := 41) rfl)
theorem cd_197_72 : mt_cd 197 72 = some (.aload_n 0) := mt_cd_of (q := (72, .aload_n 0, 1)) mq_197 ci_197 (List.mem_of_getElem? (i := 42) rfl)
theorem cd_197_73 : mt_cd 197 73 = some (.getfield 568) := mt_cd_of (q := (73, .getfield 568, 3)) mq_197 ci_197 (List.mem_of_getElem? (i := 43) rfl)
theorem cd_197_76 : mt_cd 197 76 = some (.putfield 565) := mt_cd_of (q := (76, .putfield 565, 3)) mq_197 ci_197 (List.mem_of_getElem? (i := 44) rfl)
theorem cd_197_79 : mt_cd 197 79 = some (.iconst 0) := mt_cd_of (q := (79, .iconst 0, 1)) mq_197 ci_197 (List.mem_of_getElem? (i := 45) rfl)
theorem cd_197_80 : mt_cd 197 80 = some (.istore 7) := mt_cd_of (q := (80, .istore 7, 2)) mq_197 ci_197 (List.mem_of_getElem? (i := 46) rfl)
theorem cd_197_82 : mt_cd 197 82 = some (.iload 7) := mt_cd_of (q := (82, .iload 7, 2)) mq_197 ci_197 (List.mem_of_getElem? (i := 47) rfl)
theorem cd_197_84 : mt_cd 197 84 = some (.aload_n 0) := mt_cd_of (q := (84, .aload_n 0, 1)) mq_197 ci_197 (List.mem_of_getElem? (i := 48) rfl)
theorem cd_197_85 : mt_cd 197 85 = some (.getfield 568) := mt_cd_of (q := (85, .getfield 568, 3)) mq_197 ci_197 (List.mem_of_getElem? (i := 49) rfl)
theorem cd_197_88 : mt_cd 197 88 = some (.if_icmp .ge 51) := mt_cd_of (q := (88, .if_icmp .ge 51, 3)) mq_197 ci_197 (List.mem_of_getElem? (i := 50) rfl)
theorem cd_197_91 : mt_cd 197 91 = some (.aload_n 0) := mt_cd_of (q := (91, .aload_n 0, 1)) mq_197 ci_197 (List.mem_of_getElem? (i := 51) rfl)
theorem cd_197_92 : mt_cd 197 92 = some (.getfield 217) := mt_cd_of (q := (92, .getfield 217, 3)) mq_197 ci_197 (List.mem_of_getElem? (i := 52) rfl)
theorem cd_197_95 : mt_cd 197 95 = some (.iload 7) := mt_cd_of (q := (95, .iload 7, 2)) mq_197 ci_197 (List.mem_of_getElem? (i := 53) rfl)
theorem cd_197_97 : mt_cd 197 97 = some (.aload_n 0) := mt_cd_of (q := (97, .aload_n 0, 1)) mq_197 ci_197 (List.mem_of_getElem? (i := 54) rfl)
theorem cd_197_98 : mt_cd 197 98 = some (.getfield 211) := mt_cd_of (q := (98, .getfield 211, 3)) mq_197 ci_197 (List.mem_of_getElem? (i := 55) rfl)
theorem cd_197_101 : mt_cd 197 101 = some (.iload 7) := mt_cd_of (q := (101, .iload 7, 2)) mq_197 ci_197 (List.mem_of_getElem? (i := 56) rfl)
theorem cd_197_103 : mt_cd 197 103 = some (.iaload) := mt_cd_of (q := (103, .iaload, 1)) mq_197 ci_197 (List.mem_of_getElem? (i := 57) rfl)
theorem cd_197_104 : mt_cd 197 104 = some (.iastore) := mt_cd_of (q := (104, .iastore, 1)) mq_197 ci_197 (List.mem_of_getElem? (i := 58) rfl)
theorem cd_197_105 : mt_cd 197 105 = some (.aload_n 0) := mt_cd_of (q := (105, .aload_n 0, 1)) mq_197 ci_197 (List.mem_of_getElem? (i := 59) rfl)
theorem cd_197_106 : mt_cd 197 106 = some (.getfield 226) := mt_cd_of (q := (106, .getfield 226, 3)) mq_197 ci_197 (List.mem_of_getElem? (i := 60) rfl)
theorem cd_197_109 : mt_cd 197 109 = some (.iload 7) := mt_cd_of (q := (109, .iload 7, 2)) mq_197 ci_197 (List.mem_of_getElem? (i := 61) rfl)
theorem cd_197_111 : mt_cd 197 111 = some (.aload_n 0) := mt_cd_of (q := (111, .aload_n 0, 1)) mq_197 ci_197 (List.mem_of_getElem? (i := 62) rfl)
theorem cd_197_112 : mt_cd 197 112 = some (.getfield 223) := mt_cd_of (q := (112, .getfield 223, 3)) mq_197 ci_197 (List.mem_of_getElem? (i := 63) rfl)
theorem cd_197_115 : mt_cd 197 115 = some (.iload 7) := mt_cd_of (q := (115, .iload 7, 2)) mq_197 ci_197 (List.mem_of_getElem? (i := 64) rfl)
theorem cd_197_117 : mt_cd 197 117 = some (.laload) := mt_cd_of (q := (117, .laload, 1)) mq_197 ci_197 (List.mem_of_getElem? (i := 65) rfl)
theorem cd_197_118 : mt_cd 197 118 = some (.lastore) := mt_cd_of (q := (118, .lastore, 1)) mq_197 ci_197 (List.mem_of_getElem? (i := 66) rfl)
theorem cd_197_119 : mt_cd 197 119 = some (.aload_n 0) := mt_cd_of (q := (119, .aload_n 0, 1)) mq_197 ci_197 (List.mem_of_getElem? (i := 67) rfl)
theorem cd_197_120 : mt_cd 197 120 = some (.getfield 220) := mt_cd_of (q := (120, .getfield 220, 3)) mq_197 ci_197 (List.mem_of_getElem? (i := 68) rfl)
theorem cd_197_123 : mt_cd 197 123 = some (.iload 7) := mt_cd_of (q := (123, .iload 7, 2)) mq_197 ci_197 (List.mem_of_getElem? (i := 69) rfl)
theorem cd_197_125 : mt_cd 197 125 = some (.aload_n 0) := mt_cd_of (q := (125, .aload_n 0, 1)) mq_197 ci_197 (List.mem_of_getElem? (i := 70) rfl)
theorem cd_197_126 : mt_cd 197 126 = some (.getfield 214) := mt_cd_of (q := (126, .getfield 214, 3)) mq_197 ci_197 (List.mem_of_getElem? (i := 71) rfl)
theorem cd_197_129 : mt_cd 197 129 = some (.iload 7) := mt_cd_of (q := (129, .iload 7, 2)) mq_197 ci_197 (List.mem_of_getElem? (i := 72) rfl)
theorem cd_197_131 : mt_cd 197 131 = some (.iaload) := mt_cd_of (q := (131, .iaload, 1)) mq_197 ci_197 (List.mem_of_getElem? (i := 73) rfl)
theorem cd_197_132 : mt_cd 197 132 = some (.iastore) := mt_cd_of (q := (132, .iastore, 1)) mq_197 ci_197 (List.mem_of_getElem? (i := 74) rfl)
theorem cd_197_133 : mt_cd 197 133 = some (.iinc 7 1) := mt_cd_of (q := (133, .iinc 7 1, 3)) mq_197 ci_197 (List.mem_of_getElem? (i := 75) rfl)
theorem cd_197_136 : mt_cd 197 136 = some (.goto (-54)) := mt_cd_of (q := (136, .goto (-54), 3)) mq_197 ci_197 (List.mem_of_getElem? (i := 76) rfl)
theorem cd_197_139 : mt_cd 197 139 = some (.aload_n 0) := mt_cd_of (q := (139, .aload_n 0, 1)) mq_197 ci_197 (List.mem_of_getElem? (i := 77) rfl)
theorem cd_197_140 : mt_cd 197 140 = some (.dup) := mt_cd_of (q := (140, .dup, 1)) mq_197 ci_197 (List.mem_of_getElem? (i := 78) rfl)
theorem cd_197_141 : mt_cd 197 141 = some (.getfield 568) := mt_cd_of (q := (141, .getfield 568, 3)) mq_197 ci_197 (List.mem_of_getElem? (i := 79) rfl)
theorem cd_197_144 : mt_cd 197 144 = some (.iconst 1) := mt_cd_of (q := (144, .iconst 1, 1)) mq_197 ci_197 (List.mem_of_getElem? (i := 80) rfl)
theorem cd_197_145 : mt_cd 197 145 = some (.isub) := mt_cd_of (q := (145, .isub, 1)) mq_197 ci_197 (List.mem_of_getElem? (i := 81) rfl)
theorem cd_197_146 : mt_cd 197 146 = some (.putfield 568) := mt_cd_of (q := (146, .putfield 568, 3)) mq_197 ci_197 (List.mem_of_getElem? (i := 82) rfl)
theorem cd_197_149 : mt_cd 197 149 = some (.iconst 1) := mt_cd_of (q := (149, .iconst 1, 1)) mq_197 ci_197 (List.mem_of_getElem? (i := 83) rfl)
theorem cd_197_150 : mt_cd 197 150 = some (.ireturn) := mt_cd_of (q := (150, .ireturn, 1)) mq_197 ci_197 (List.mem_of_getElem? (i := 84) rfl)
theorem cd_197_151 : mt_cd 197 151 = some (.aload_n 0) := mt_cd_of (q := (151, .aload_n 0, 1)) mq_197 ci_197 (List.mem_of_getElem? (i := 85) rfl)
theorem cd_197_152 : mt_cd 197 152 = some (.aload_n 1) := mt_cd_of (q := (152, .aload_n 1, 1)) mq_197 ci_197 (List.mem_of_getElem? (i := 86) rfl)
theorem cd_197_153 : mt_cd 197 153 = some (.invokevirtual 571) := mt_cd_of (q := (153, .invokevirtual 571, 3)) mq_197 ci_197 (List.mem_of_getElem? (i := 87) rfl)
theorem cd_197_156 : mt_cd 197 156 = some (.istore 7) := mt_cd_of (q := (156, .istore 7, 2)) mq_197 ci_197 (List.mem_of_getElem? (i := 88) rfl)
theorem cd_197_158 : mt_cd 197 158 = some (.aload_n 0) := mt_cd_of (q := (158, .aload_n 0, 1)) mq_197 ci_197 (List.mem_of_getElem? (i := 89) rfl)
theorem cd_197_159 : mt_cd 197 159 = some (.dup) := mt_cd_of (q := (159, .dup, 1)) mq_197 ci_197 (List.mem_of_getElem? (i := 90) rfl)
theorem cd_197_160 : mt_cd 197 160 = some (.getfield 568) := mt_cd_of (q := (160, .getfield 568, 3)) mq_197 ci_197 (List.mem_of_getElem? (i := 91) rfl)
theorem cd_197_163 : mt_cd 197 163 = some (.iconst 1) := mt_cd_of (q := (163, .iconst 1, 1)) mq_197 ci_197 (List.mem_of_getElem? (i := 92) rfl)
theorem cd_197_164 : mt_cd 197 164 = some (.isub) := mt_cd_of (q := (164, .isub, 1)) mq_197 ci_197 (List.mem_of_getElem? (i := 93) rfl)
theorem cd_197_165 : mt_cd 197 165 = some (.putfield 568) := mt_cd_of (q := (165, .putfield 568, 3)) mq_197 ci_197 (List.mem_of_getElem? (i := 94) rfl)
theorem cd_197_168 : mt_cd 197 168 = some (.iload 7) := mt_cd_of (q := (168, .iload 7, 2)) mq_197 ci_197 (List.mem_of_getElem? (i := 95) rfl)
theorem cd_197_170 : mt_cd 197 170 = some (.ireturn) := mt_cd_of (q := (170, .ireturn, 1)) mq_197 ci_197 (List.mem_of_getElem? (i := 96) rfl)
theorem b_197_0 {d : Nat} {Q : (Option Value ⊕ Nat) → mi_H → Prop} (n sl : Nat) (f : Nat → mi_C) {l1 : Nat} {l2 : Nat} {l3 : Int32} {l4 : Int32} {l5 : Int64} {l6 : Int32} {o7 : Option Value} {fs8 : List Value} {x11 : Int32} {fs13 : List Value} (h9 : f l1 = .inr (12, fs8)) (h10 : l1 < n) (h12 : fs8[73]? = some (.int x11)) (h14 : f l1 = .inr (12, fs13)) (h15 : l1 < n) (h16 : 73 < fs13.length) (h17 : (x11 + 1) ≤ 5000 → mi_W d 197 19 [some (.ref l1), some (.ref l2), some (.int l3), some (.int l4), some (.long l5), none, some (.int l6), o7] [] (n, sl, (va_up f l1 (.inr (12, fs13.set 73 (.int (x11 + 1)))))) Q) (h18 : ¬ ((x11 + 1) ≤ 5000) → mi_W d 197 17 [some (.ref l1), some (.ref l2), some (.int l3), some (.int l4), some (.long l5), none, some (.int l6), o7] [] (n, sl, (va_up f l1 (.inr (12, fs13.set 73 (.int (x11 + 1)))))) Q) : mi_W d 197 0 [some (.ref l1), some (.ref l2), some (.int l3), some (.int l4), some (.long l5), none, some (.int l6), o7] [] (n, sl, f) Q := by
  refine w_aload_n cd_197_0 rfl ?_
  refine w_dup_r cd_197_1 ?_
  refine w_getfield cd_197_2 (show mt_f 12 562 = some (12, 73) by decide +kernel) h9 h10 h12 ?_
  refine w_iconst (v := 1) cd_197_5 (by decide) ?_
  refine w_iadd cd_197_6 ?_
  refine w_dup_x1_ir cd_197_7 ?_
  refine w_putfield (w := .int (x11 + 1)) cd_197_8 (show mt_f 12 562 = some (12, 73) by decide +kernel) h14 h15 ⟨h16, rfl, Or.inl (by decide)⟩ ?_
  refine w_sipush (v := 5000) cd_197_11 (by decide) ?_
  exact w_if_icmple cd_197_14 (by decide) h17 h18
theorem b_197_17 {d : Nat} {Q : (Option Value ⊕ Nat) → mi_H → Prop} (n sl : Nat) (f : Nat → mi_C) {l1 : Nat} {l2 : Nat} {l3 : Int32} {l4 : Int32} {l5 : Int64} {l6 : Int32} {o7 : Option Value} (h8 : Q (.inl (some (.int 2))) (n, sl, f)) : mi_W d 197 17 [some (.ref l1), some (.ref l2), some (.int l3), some (.int l4), some (.long l5), none, some (.int l6), o7] [] (n, sl, f) Q := by
  refine w_iconst (v := 2) cd_197_17 (by decide) ?_
  exact w_ireturn_i cd_197_18 (by decide +kernel) h8
theorem b_197_19 {d : Nat} {Q : (Option Value ⊕ Nat) → mi_H → Prop} (n sl : Nat) (f : Nat → mi_C) {l1 : Nat} {l2 : Nat} {l3 : Int32} {l4 : Int32} {l5 : Int64} {l6 : Int32} {o7 : Option Value} (h8 : l3 = (0 : Int32) → mi_W d 197 25 [some (.ref l1), some (.ref l2), some (.int l3), some (.int l4), some (.long l5), none, some (.int l6), o7] [] (n, sl, f) Q) (h9 : ¬ (l3 = (0 : Int32)) → mi_W d 197 23 [some (.ref l1), some (.ref l2), some (.int l3), some (.int l4), some (.long l5), none, some (.int l6), o7] [] (n, sl, f) Q) : mi_W d 197 19 [some (.ref l1), some (.ref l2), some (.int l3), some (.int l4), some (.long l5), none, some (.int l6), o7] [] (n, sl, f) Q := by
  refine w_iload_n cd_197_19 rfl ?_
  exact w_ifeq cd_197_20 (by decide) h8 h9
theorem b_197_23 {d : Nat} {Q : (Option Value ⊕ Nat) → mi_H → Prop} (n sl : Nat) (f : Nat → mi_C) {l1 : Nat} {l2 : Nat} {l3 : Int32} {l4 : Int32} {l5 : Int64} {l6 : Int32} {o7 : Option Value} (h8 : Q (.inl (some (.int 0))) (n, sl, f)) : mi_W d 197 23 [some (.ref l1), some (.ref l2), some (.int l3), some (.int l4), some (.long l5), none, some (.int l6), o7] [] (n, sl, f) Q := by
  refine w_iconst (v := 0) cd_197_23 (by decide) ?_
  exact w_ireturn_i cd_197_24 (by decide +kernel) h8
theorem b_197_25 {d : Nat} {Q : (Option Value ⊕ Nat) → mi_H → Prop} (n sl : Nat) (f : Nat → mi_C) {l1 : Nat} {l2 : Nat} {l3 : Int32} {l4 : Int32} {l5 : Int64} {l6 : Int32} {o7 : Option Value} {fs8 : List Value} {x11 : Nat} {fs13 : List Value} {x16 : Int32} (m18 i18 : Nat) (g18 : Nat → Int32) {fs22 : List Value} {x25 : Nat} {fs27 : List Value} {x30 : Int32} (m32 i32 : Nat) (g32 : Nat → Int64) {fs36 : List Value} {x39 : Nat} {fs41 : List Value} {x44 : Int32} {fs46 : List Value} (m50 i50 : Nat) (g50 : Nat → Int32) {fs54 : List Value} {x57 : Int32} (h9 : f l1 = .inr (12, fs8)) (h10 : l1 < n) (h12 : fs8[76]? = some (.ref x11)) (h14 : f l1 = .inr (12, fs13)) (h15 : l1 < n) (h17 : fs13[74]? = some (.int x16)) (h19 : f x11 = .inl (0, m18, .inl g18)) (h20 : x11 < n) (h21 : mi_ix x16 m18 i18) (h23 : (va_up f x11 (.inl (0, m18, .inl (upd g18 i18 l4)))) l1 = .inr (12, fs22)) (h24 : l1 < n) (h26 : fs22[80]? = some (.ref x25)) (h28 : (va_up f x11 (.inl (0, m18, .inl (upd g18 i18 l4)))) l1 = .inr (12, fs27)) (h29 : l1 < n) (h31 : fs27[74]? = some (.int x30)) (h33 : (va_up f x11 (.inl (0, m18, .inl (upd g18 i18 l4)))) x25 = .inl (3, m32, .inr (.inl g32))) (h34 : x25 < n) (h35 : mi_ix x30 m32 i32) (h37 : (va_up (va_up f x11 (.inl (0, m18, .inl (upd g18 i18 l4)))) x25 (.inl (3, m32, .inr (.inl (vp_updL g32 i32 l5))))) l1 = .inr (12, fs36)) (h38 : l1 < n) (h40 : fs36[77]? = some (.ref x39)) (h42 : (va_up (va_up f x11 (.inl (0, m18, .inl (upd g18 i18 l4)))) x25 (.inl (3, m32, .inr (.inl (vp_updL g32 i32 l5))))) l1 = .inr (12, fs41)) (h43 : l1 < n) (h45 : fs41[74]? = some (.int x44)) (h47 : (va_up (va_up f x11 (.inl (0, m18, .inl (upd g18 i18 l4)))) x25 (.inl (3, m32, .inr (.inl (vp_updL g32 i32 l5))))) l1 = .inr (12, fs46)) (h48 : l1 < n) (h49 : 74 < fs46.length) (h51 : (va_up (va_up (va_up f x11 (.inl (0, m18, .inl (upd g18 i18 l4)))) x25 (.inl (3, m32, .inr (.inl (vp_updL g32 i32 l5))))) l1 (.inr (12, fs46.set 74 (.int (x44 + 1))))) x39 = .inl (0, m50, .inl g50)) (h52 : x39 < n) (h53 : mi_ix x44 m50 i50) (h55 : (va_up (va_up (va_up (va_up f x11 (.inl (0, m18, .inl (upd g18 i18 l4)))) x25 (.inl (3, m32, .inr (.inl (vp_updL g32 i32 l5))))) l1 (.inr (12, fs46.set 74 (.int (x44 + 1))))) x39 (.inl (0, m50, .inl (upd g50 i50 l6)))) l1 = .inr (12, fs54)) (h56 : l1 < n) (h58 : fs54[47]? = some (.int x57)) (h59 : x57 ≤ (0 : Int32) → mi_W d 197 151 [some (.ref l1), some (.ref l2), some (.int l3), some (.int l4), some (.long l5), none, some (.int l6), o7] [] (n, sl, (va_up (va_up (va_up (va_up f x11 (.inl (0, m18, .inl (upd g18 i18 l4)))) x25 (.inl (3, m32, .inr (.inl (vp_updL g32 i32 l5))))) l1 (.inr (12, fs46.set 74 (.int (x44 + 1))))) x39 (.inl (0, m50, .inl (upd g50 i50 l6))))) Q) (h60 : ¬ (x57 ≤ (0 : Int32)) → mi_W d 197 71 [some (.ref l1), some (.ref l2), some (.int l3), some (.int l4), some (.long l5), none, some (.int l6), o7] [] (n, sl, (va_up (va_up (va_up (va_up f x11 (.inl (0, m18, .inl (upd g18 i18 l4)))) x25 (.inl (3, m32, .inr (.inl (vp_updL g32 i32 l5))))) l1 (.inr (12, fs46.set 74 (.int (x44 + 1))))) x39 (.inl (0, m50, .inl (upd g50 i50 l6))))) Q) : mi_W d 197 25 [some (.ref l1), some (.ref l2), some (.int l3), some (.int l4), some (.long l5), none, some (.int l6), o7] [] (n, sl, f) Q := by
  refine w_aload_n cd_197_25 rfl ?_
  refine w_getfield cd_197_26 (show mt_f 12 211 = some (12, 76) by decide +kernel) h9 h10 h12 ?_
  refine w_aload_n cd_197_29 rfl ?_
  refine w_getfield cd_197_30 (show mt_f 12 568 = some (12, 74) by decide +kernel) h14 h15 h17 ?_
  refine w_iload_n cd_197_33 rfl ?_
  refine w_iastore cd_197_34 h19 h20 h21 ?_
  refine w_aload_n cd_197_35 rfl ?_
  refine w_getfield cd_197_36 (show mt_f 12 223 = some (12, 80) by decide +kernel) h23 h24 h26 ?_
  refine w_aload_n cd_197_39 rfl ?_
  refine w_getfield cd_197_40 (show mt_f 12 568 = some (12, 74) by decide +kernel) h28 h29 h31 ?_
  refine w_lload cd_197_43 rfl ?_
  refine w_lastore cd_197_45 h33 h34 h35 ?_
  refine w_aload_n cd_197_46 rfl ?_
  refine w_getfield cd_197_47 (show mt_f 12 214 = some (12, 77) by decide +kernel) h37 h38 h40 ?_
  refine w_aload_n cd_197_50 rfl ?_
  refine w_dup_r cd_197_51 ?_
  refine w_getfield cd_197_52 (show mt_f 12 568 = some (12, 74) by decide +kernel) h42 h43 h45 ?_
  refine w_dup_x1_ir cd_197_55 ?_
  refine w_iconst (v := 1) cd_197_56 (by decide) ?_
  refine w_iadd cd_197_57 ?_
  refine w_putfield (w := .int (x44 + 1)) cd_197_58 (show mt_f 12 568 = some (12, 74) by decide +kernel) h47 h48 ⟨h49, rfl, Or.inl (by decide)⟩ ?_
  refine w_iload cd_197_61 rfl ?_
  refine w_iastore cd_197_63 h51 h52 h53 ?_
  refine w_aload_n cd_197_64 rfl ?_
  refine w_getfield cd_197_65 (show mt_f 12 490 = some (12, 47) by decide +kernel) h55 h56 h58 ?_
  exact w_ifle cd_197_68 (by decide) h59 h60
theorem b_197_71 {d : Nat} {Q : (Option Value ⊕ Nat) → mi_H → Prop} (n sl : Nat) (f : Nat → mi_C) {l1 : Nat} {l2 : Nat} {l3 : Int32} {l4 : Int32} {l5 : Int64} {l6 : Int32} {o7 : Option Value} {fs8 : List Value} {x11 : Int32} {fs13 : List Value} (h9 : f l1 = .inr (12, fs8)) (h10 : l1 < n) (h12 : fs8[74]? = some (.int x11)) (h14 : f l1 = .inr (12, fs13)) (h15 : l1 < n) (h16 : 75 < fs13.length) (h17 : mi_W d 197 82 [some (.ref l1), some (.ref l2), some (.int l3), some (.int l4), some (.long l5), none, some (.int l6), some (.int 0)] [] (n, sl, (va_up f l1 (.inr (12, fs13.set 75 (.int x11))))) Q) : mi_W d 197 71 [some (.ref l1), some (.ref l2), some (.int l3), some (.int l4), some (.long l5), none, some (.int l6), o7] [] (n, sl, f) Q := by
  refine w_aload_n cd_197_71 rfl ?_
  refine w_aload_n cd_197_72 rfl ?_
  refine w_getfield cd_197_73 (show mt_f 12 568 = some (12, 74) by decide +kernel) h9 h10 h12 ?_
  refine w_putfield (w := .int x11) cd_197_76 (show mt_f 12 565 = some (12, 75) by decide +kernel) h14 h15 ⟨h16, rfl, Or.inl (by decide)⟩ ?_
  refine w_iconst (v := 0) cd_197_79 (by decide) ?_
  refine w_istore (ls' := [some (.ref l1), some (.ref l2), some (.int l3), some (.int l4), some (.long l5), none, some (.int l6), some (.int 0)]) cd_197_80 (Nat.le_of_ble_eq_true rfl) rfl ?_
  exact h17
theorem b_197_82 {d : Nat} {Q : (Option Value ⊕ Nat) → mi_H → Prop} (n sl : Nat) (f : Nat → mi_C) {l1 : Nat} {l2 : Nat} {l3 : Int32} {l4 : Int32} {l5 : Int64} {l6 : Int32} {l7 : Int32} {fs8 : List Value} {x11 : Int32} (h9 : f l1 = .inr (12, fs8)) (h10 : l1 < n) (h12 : fs8[74]? = some (.int x11)) (h13 : x11 ≤ l7 → mi_W d 197 139 [some (.ref l1), some (.ref l2), some (.int l3), some (.int l4), some (.long l5), none, some (.int l6), some (.int l7)] [] (n, sl, f) Q) (h14 : ¬ (x11 ≤ l7) → mi_W d 197 91 [some (.ref l1), some (.ref l2), some (.int l3), some (.int l4), some (.long l5), none, some (.int l6), some (.int l7)] [] (n, sl, f) Q) : mi_W d 197 82 [some (.ref l1), some (.ref l2), some (.int l3), some (.int l4), some (.long l5), none, some (.int l6), some (.int l7)] [] (n, sl, f) Q := by
  refine w_iload cd_197_82 rfl ?_
  refine w_aload_n cd_197_84 rfl ?_
  refine w_getfield cd_197_85 (show mt_f 12 568 = some (12, 74) by decide +kernel) h9 h10 h12 ?_
  exact w_if_icmpge cd_197_88 (by decide) h13 h14
theorem b_197_91 {d : Nat} {Q : (Option Value ⊕ Nat) → mi_H → Prop} (n sl : Nat) (f : Nat → mi_C) {l1 : Nat} {l2 : Nat} {l3 : Int32} {l4 : Int32} {l5 : Int64} {l6 : Int32} {l7 : Int32} {fs8 : List Value} {x11 : Nat} {fs13 : List Value} {x16 : Nat} (m18 i18 : Nat) (g18 : Nat → Int32) (m22 i22 : Nat) (g22 : Nat → Int32) {fs26 : List Value} {x29 : Nat} {fs31 : List Value} {x34 : Nat} (m36 i36 : Nat) (g36 : Nat → Int64) (m40 i40 : Nat) (g40 : Nat → Int64) {fs44 : List Value} {x47 : Nat} {fs49 : List Value} {x52 : Nat} (m54 i54 : Nat) (g54 : Nat → Int32) (m58 i58 : Nat) (g58 : Nat → Int32) (h9 : f l1 = .inr (12, fs8)) (h10 : l1 < n) (h12 : fs8[78]? = some (.ref x11)) (h14 : f l1 = .inr (12, fs13)) (h15 : l1 < n) (h17 : fs13[76]? = some (.ref x16)) (h19 : f x16 = .inl (0, m18, .inl g18)) (h20 : x16 < n ∨ x16 = mi_SC) (h21 : mi_ix l7 m18 i18) (h23 : f x11 = .inl (0, m22, .inl g22)) (h24 : x11 < n) (h25 : mi_ix l7 m22 i22) (h27 : (va_up f x11 (.inl (0, m22, .inl (upd g22 i22 (g18 i18))))) l1 = .inr (12, fs26)) (h28 : l1 < n) (h30 : fs26[81]? = some (.ref x29)) (h32 : (va_up f x11 (.inl (0, m22, .inl (upd g22 i22 (g18 i18))))) l1 = .inr (12, fs31)) (h33 : l1 < n) (h35 : fs31[80]? = some (.ref x34)) (h37 : (va_up f x11 (.inl (0, m22, .inl (upd g22 i22 (g18 i18))))) x34 = .inl (3, m36, .inr (.inl g36))) (h38 : x34 < n) (h39 : mi_ix l7 m36 i36) (h41 : (va_up f x11 (.inl (0, m22, .inl (upd g22 i22 (g18 i18))))) x29 = .inl (3, m40, .inr (.inl g40))) (h42 : x29 < n) (h43 : mi_ix l7 m40 i40) (h45 : (va_up (va_up f x11 (.inl (0, m22, .inl (upd g22 i22 (g18 i18))))) x29 (.inl (3, m40, .inr (.inl (vp_updL g40 i40 (g36 i36)))))) l1 = .inr (12, fs44)) (h46 : l1 < n) (h48 : fs44[79]? = some (.ref x47)) (h50 : (va_up (va_up f x11 (.inl (0, m22, .inl (upd g22 i22 (g18 i18))))) x29 (.inl (3, m40, .inr (.inl (vp_updL g40 i40 (g36 i36)))))) l1 = .inr (12, fs49)) (h51 : l1 < n) (h53 : fs49[77]? = some (.ref x52)) (h55 : (va_up (va_up f x11 (.inl (0, m22, .inl (upd g22 i22 (g18 i18))))) x29 (.inl (3, m40, .inr (.inl (vp_updL g40 i40 (g36 i36)))))) x52 = .inl (0, m54, .inl g54)) (h56 : x52 < n ∨ x52 = mi_SC) (h57 : mi_ix l7 m54 i54) (h59 : (va_up (va_up f x11 (.inl (0, m22, .inl (upd g22 i22 (g18 i18))))) x29 (.inl (3, m40, .inr (.inl (vp_updL g40 i40 (g36 i36)))))) x47 = .inl (0, m58, .inl g58)) (h60 : x47 < n) (h61 : mi_ix l7 m58 i58) (h62 : mi_W d 197 82 [some (.ref l1), some (.ref l2), some (.int l3), some (.int l4), some (.long l5), none, some (.int l6), some (.int (l7 + 1))] [] (n, sl, (va_up (va_up (va_up f x11 (.inl (0, m22, .inl (upd g22 i22 (g18 i18))))) x29 (.inl (3, m40, .inr (.inl (vp_updL g40 i40 (g36 i36)))))) x47 (.inl (0, m58, .inl (upd g58 i58 (g54 i54)))))) Q) : mi_W d 197 91 [some (.ref l1), some (.ref l2), some (.int l3), some (.int l4), some (.long l5), none, some (.int l6), some (.int l7)] [] (n, sl, f) Q := by
  refine w_aload_n cd_197_91 rfl ?_
  refine w_getfield cd_197_92 (show mt_f 12 217 = some (12, 78) by decide +kernel) h9 h10 h12 ?_
  refine w_iload cd_197_95 rfl ?_
  refine w_aload_n cd_197_97 rfl ?_
  refine w_getfield cd_197_98 (show mt_f 12 211 = some (12, 76) by decide +kernel) h14 h15 h17 ?_
  refine w_iload cd_197_101 rfl ?_
  refine w_iaload cd_197_103 h19 h20 h21 ?_
  refine w_iastore cd_197_104 h23 h24 h25 ?_
  refine w_aload_n cd_197_105 rfl ?_
  refine w_getfield cd_197_106 (show mt_f 12 226 = some (12, 81) by decide +kernel) h27 h28 h30 ?_
  refine w_iload cd_197_109 rfl ?_
  refine w_aload_n cd_197_111 rfl ?_
  refine w_getfield cd_197_112 (show mt_f 12 223 = some (12, 80) by decide +kernel) h32 h33 h35 ?_
  refine w_iload cd_197_115 rfl ?_
  refine w_laload cd_197_117 h37 h38 h39 ?_
  refine w_lastore cd_197_118 h41 h42 h43 ?_
  refine w_aload_n cd_197_119 rfl ?_
  refine w_getfield cd_197_120 (show mt_f 12 220 = some (12, 79) by decide +kernel) h45 h46 h48 ?_
  refine w_iload cd_197_123 rfl ?_
  refine w_aload_n cd_197_125 rfl ?_
  refine w_getfield cd_197_126 (show mt_f 12 214 = some (12, 77) by decide +kernel) h50 h51 h53 ?_
  refine w_iload cd_197_129 rfl ?_
  refine w_iaload cd_197_131 h55 h56 h57 ?_
  refine w_iastore cd_197_132 h59 h60 h61 ?_
  refine w_iinc (v := 1) (ls' := [some (.ref l1), some (.ref l2), some (.int l3), some (.int l4), some (.long l5), none, some (.int l6), some (.int (l7 + 1))]) cd_197_133 rfl (by decide) rfl ?_
  exact w_goto cd_197_136 (by decide) h62
theorem b_197_139 {d : Nat} {Q : (Option Value ⊕ Nat) → mi_H → Prop} (n sl : Nat) (f : Nat → mi_C) {l1 : Nat} {l2 : Nat} {l3 : Int32} {l4 : Int32} {l5 : Int64} {l6 : Int32} {l7 : Int32} {fs8 : List Value} {x11 : Int32} {fs13 : List Value} (h9 : f l1 = .inr (12, fs8)) (h10 : l1 < n) (h12 : fs8[74]? = some (.int x11)) (h14 : f l1 = .inr (12, fs13)) (h15 : l1 < n) (h16 : 74 < fs13.length) (h17 : Q (.inl (some (.int 1))) (n, sl, (va_up f l1 (.inr (12, fs13.set 74 (.int (x11 - 1))))))) : mi_W d 197 139 [some (.ref l1), some (.ref l2), some (.int l3), some (.int l4), some (.long l5), none, some (.int l6), some (.int l7)] [] (n, sl, f) Q := by
  refine w_aload_n cd_197_139 rfl ?_
  refine w_dup_r cd_197_140 ?_
  refine w_getfield cd_197_141 (show mt_f 12 568 = some (12, 74) by decide +kernel) h9 h10 h12 ?_
  refine w_iconst (v := 1) cd_197_144 (by decide) ?_
  refine w_isub cd_197_145 ?_
  refine w_putfield (w := .int (x11 - 1)) cd_197_146 (show mt_f 12 568 = some (12, 74) by decide +kernel) h14 h15 ⟨h16, rfl, Or.inl (by decide)⟩ ?_
  refine w_iconst (v := 1) cd_197_149 (by decide) ?_
  exact w_ireturn_i cd_197_150 (by decide +kernel) h17
theorem b_197_151 {d : Nat} {Q : (Option Value ⊕ Nat) → mi_H → Prop} (n sl : Nat) (f : Nat → mi_C) {l1 : Nat} {l2 : Nat} {l3 : Int32} {l4 : Int32} {l5 : Int64} {l6 : Int32} {o7 : Option Value} {fs8 : List Value} (h9 : f l1 = .inr (12, fs8)) (h10 : l1 < n) (h11 : mi_W d 196 0 (mi_en 6 [.ref l1, .ref l2]) [] (n, sl, f) (mi_Kc d 197 153 [some (.ref l1), some (.ref l2), some (.int l3), some (.int l4), some (.long l5), none, some (.int l6), o7] [] Q)) : mi_W (d + 1) 197 151 [some (.ref l1), some (.ref l2), some (.int l3), some (.int l4), some (.long l5), none, some (.int l6), o7] [] (n, sl, f) Q := by
  refine w_aload_n cd_197_151 rfl ?_
  refine w_aload_n cd_197_152 rfl ?_
  exact w_invokevirtual cd_197_153 (show mt_m 12 571 = some (196, 0) by decide +kernel) (rest := []) rfl (as := [.ref l1, .ref l2]) rfl h9 (Or.inl h10) ⟨Nat.le_of_ble_eq_true rfl, Nat.le_of_ble_eq_true rfl, Nat.le_of_ble_eq_true rfl⟩ h11
theorem b_197_156 {d : Nat} {Q : (Option Value ⊕ Nat) → mi_H → Prop} (n sl : Nat) (f : Nat → mi_C) {l1 : Nat} {l2 : Nat} {l3 : Int32} {l4 : Int32} {l5 : Int64} {l6 : Int32} {o7 : Option Value} {s8 : Int32} {fs9 : List Value} {x12 : Int32} {fs14 : List Value} (h10 : f l1 = .inr (12, fs9)) (h11 : l1 < n) (h13 : fs9[74]? = some (.int x12)) (h15 : f l1 = .inr (12, fs14)) (h16 : l1 < n) (h17 : 74 < fs14.length) (h18 : Q (.inl (some (.int s8))) (n, sl, (va_up f l1 (.inr (12, fs14.set 74 (.int (x12 - 1))))))) : mi_W d 197 156 [some (.ref l1), some (.ref l2), some (.int l3), some (.int l4), some (.long l5), none, some (.int l6), o7] [.int s8] (n, sl, f) Q := by
  refine w_istore (ls' := [some (.ref l1), some (.ref l2), some (.int l3), some (.int l4), some (.long l5), none, some (.int l6), some (.int s8)]) cd_197_156 (Nat.le_of_ble_eq_true rfl) rfl ?_
  refine w_aload_n cd_197_158 rfl ?_
  refine w_dup_r cd_197_159 ?_
  refine w_getfield cd_197_160 (show mt_f 12 568 = some (12, 74) by decide +kernel) h10 h11 h13 ?_
  refine w_iconst (v := 1) cd_197_163 (by decide) ?_
  refine w_isub cd_197_164 ?_
  refine w_putfield (w := .int (x12 - 1)) cd_197_165 (show mt_f 12 568 = some (12, 74) by decide +kernel) h15 h16 ⟨h17, rfl, Or.inl (by decide)⟩ ?_
  refine w_iload cd_197_168 rfl ?_
  exact w_ireturn_i cd_197_170 (by decide +kernel) h18
/-! MarloweHostModel.numbers(LMarloweHostModel$State;LMarloweHostModel$State;I)I -/
set_option maxRecDepth 100000 in
theorem mq_198 : mt_q 198 = my_198 := rfl
set_option maxRecDepth 100000 in
theorem ci_198 : mt_inc 0 my_198.cd = true := by decide +kernel
theorem cd_198_0 : mt_cd 198 0 = some (.aload_n 0) := mt_cd_of (q := (0, .aload_n 0, 1)) mq_198 ci_198 (List.mem_of_getElem? (i := 0) rfl)
theorem cd_198_1 : mt_cd 198 1 = some (.getfield 141) := mt_cd_of (q := (1, .getfield 141, 3)) mq_198 ci_198 (List.mem_of_getElem? (i := 1) rfl)
theorem cd_198_4 : mt_cd 198 4 = some (.iload_n 3) := mt_cd_of (q := (4, .iload_n 3, 1)) mq_198 ci_198 (List.mem_of_getElem? (i := 2) rfl)
theorem cd_198_5 : mt_cd 198 5 = some (.iaload) := mt_cd_of (q := (5, .iaload, 1)) mq_198 ci_198 (List.mem_of_getElem? (i := 3) rfl)
theorem cd_198_6 : mt_cd 198 6 = some (.istore 4) := mt_cd_of (q := (6, .istore 4, 2)) mq_198 ci_198 (List.mem_of_getElem? (i := 4) rfl)
theorem cd_198_8 : mt_cd 198 8 = some (.iload 4) := mt_cd_of (q := (8, .iload 4, 2)) mq_198 ci_198 (List.mem_of_getElem? (i := 5) rfl)
theorem cd_198_10 : mt_cd 198 10 = some (.aload_n 0) := mt_cd_of (q := (10, .aload_n 0, 1)) mq_198 ci_198 (List.mem_of_getElem? (i := 6) rfl)
theorem cd_198_11 : mt_cd 198 11 = some (.getfield 141) := mt_cd_of (q := (11, .getfield 141, 3)) mq_198 ci_198 (List.mem_of_getElem? (i := 7) rfl)
theorem cd_198_14 : mt_cd 198 14 = some (.iload_n 3) := mt_cd_of (q := (14, .iload_n 3, 1)) mq_198 ci_198 (List.mem_of_getElem? (i := 8) rfl)
theorem cd_198_15 : mt_cd 198 15 = some (.iaload) := mt_cd_of (q := (15, .iaload, 1)) mq_198 ci_198 (List.mem_of_getElem? (i := 9) rfl)
theorem cd_198_16 : mt_cd 198 16 = some (.aload_n 0) := mt_cd_of (q := (16, .aload_n 0, 1)) mq_198 ci_198 (List.mem_of_getElem? (i := 10) rfl)
theorem cd_198_17 : mt_cd 198 17 = some (.getfield 95) := mt_cd_of (q := (17, .getfield 95, 3)) mq_198 ci_198 (List.mem_of_getElem? (i := 11) rfl)
theorem cd_198_20 : mt_cd 198 20 = some (.iload_n 3) := mt_cd_of (q := (20, .iload_n 3, 1)) mq_198 ci_198 (List.mem_of_getElem? (i := 12) rfl)
theorem cd_198_21 : mt_cd 198 21 = some (.iaload) := mt_cd_of (q := (21, .iaload, 1)) mq_198 ci_198 (List.mem_of_getElem? (i := 13) rfl)
theorem cd_198_22 : mt_cd 198 22 = some (.iadd) := mt_cd_of (q := (22, .iadd, 1)) mq_198 ci_198 (List.mem_of_getElem? (i := 14) rfl)
theorem cd_198_23 : mt_cd 198 23 = some (.if_icmp .ge 82) := mt_cd_of (q := (23, .if_icmp .ge 82, 3)) mq_198 ci_198 (List.mem_of_getElem? (i := 15) rfl)
theorem cd_198_26 : mt_cd 198 26 = some (.aload_n 0) := mt_cd_of (q := (26, .aload_n 0, 1)) mq_198 ci_198 (List.mem_of_getElem? (i := 16) rfl)
theorem cd_198_27 : mt_cd 198 27 = some (.getfield 105) := mt_cd_of (q := (27, .getfield 105, 3)) mq_198 ci_198 (List.mem_of_getElem? (i := 17) rfl)
theorem cd_198_30 : mt_cd 198 30 = some (.iload 4) := mt_cd_of (q := (30, .iload 4, 2)) mq_198 ci_198 (List.mem_of_getElem? (i := 18) rfl)
theorem cd_198_32 : mt_cd 198 32 = some (.laload) := mt_cd_of (q := (32, .laload, 1)) mq_198 ci_198 (List.mem_of_getElem? (i := 19) rfl)
theorem cd_198_33 : mt_cd 198 33 = some (.lstore 5) := mt_cd_of (q := (33, .lstore 5, 2)) mq_198 ci_198 (List.mem_of_getElem? (i := 20) rfl)
theorem cd_198_35 : mt_cd 198 35 = some (.lload 5) := mt_cd_of (q := (35, .lload 5, 2)) mq_198 ci_198 (List.mem_of_getElem? (i := 21) rfl)
theorem cd_198_37 : mt_cd 198 37 = some (.aload_n 0) := mt_cd_of (q := (37, .aload_n 0, 1)) mq_198 ci_198 (List.mem_of_getElem? (i := 22) rfl)
theorem cd_198_38 : mt_cd 198 38 = some (.getfield 108) := mt_cd_of (q := (38, .getfield 108, 3)) mq_198 ci_198 (List.mem_of_getElem? (i := 23) rfl)
theorem cd_198_41 : mt_cd 198 41 = some (.iload 4) := mt_cd_of (q := (41, .iload 4, 2)) mq_198 ci_198 (List.mem_of_getElem? (i := 24) rfl)
theorem cd_198_43 : mt_cd 198 43 = some (.laload) := mt_cd_of (q := (43, .laload, 1)) mq_198 ci_198 (List.mem_of_getElem? (i := 25) rfl)
theorem cd_198_44 : mt_cd 198 44 = some (.lcmp) := mt_cd_of (q := (44, .lcmp, 1)) mq_198 ci_198 (List.mem_of_getElem? (i := 26) rfl)
theorem cd_198_45 : mt_cd 198 45 = some (.ifCond .gt 54) := mt_cd_of (q := (45, .ifCond .gt 54, 3)) mq_198 ci_198 (List.mem_of_getElem? (i := 27) rfl)
theorem cd_198_48 : mt_cd 198 48 = some (.aload_n 0) := mt_cd_of (q := (48, .aload_n 0, 1)) mq_198 ci_198 (List.mem_of_getElem? (i := 28) rfl)
theorem cd_198_49 : mt_cd 198 49 = some (.iconst 0) := mt_cd_of (q := (49, .iconst 0, 1)) mq_198 ci_198 (List.mem_of_getElem? (i := 29) rfl)
theorem cd_198_50 : mt_cd 198 50 = some (.putfield 258) := mt_cd_of (q := (50, .putfield 258, 3)) mq_198 ci_198 (List.mem_of_getElem? (i := 30) rfl)
theorem cd_198_53 : mt_cd 198 53 = some (.aload_n 0) := mt_cd_of (q := (53, .aload_n 0, 1)) mq_198 ci_198 (List.mem_of_getElem? (i := 31) rfl)
theorem cd_198_54 : mt_cd 198 54 = some (.bipush 8) := mt_cd_of (q := (54, .bipush 8, 2)) mq_198 ci_198 (List.mem_of_getElem? (i := 32) rfl)
theorem cd_198_56 : mt_cd 198 56 = some (.aload_n 0) := mt_cd_of (q := (56, .aload_n 0, 1)) mq_198 ci_198 (List.mem_of_getElem? (i := 33) rfl)
theorem cd_198_57 : mt_cd 198 57 = some (.getfield 80) := mt_cd_of (q := (57, .getfield 80, 3)) mq_198 ci_198 (List.mem_of_getElem? (i := 34) rfl)
theorem cd_198_60 : mt_cd 198 60 = some (.iload_n 3) := mt_cd_of (q := (60, .iload_n 3, 1)) mq_198 ci_198 (List.mem_of_getElem? (i := 35) rfl)
theorem cd_198_61 : mt_cd 198 61 = some (.iaload) := mt_cd_of (q := (61, .iaload, 1)) mq_198 ci_198 (List.mem_of_getElem? (i := 36) rfl)
theorem cd_198_62 : mt_cd 198 62 = some (.iconst 0) := mt_cd_of (q := (62, .iconst 0, 1)) mq_198 ci_198 (List.mem_of_getElem? (i := 37) rfl)
theorem cd_198_63 : mt_cd 198 63 = some (.iconst 0) := mt_cd_of (q := (63, .iconst 0, 1)) mq_198 ci_198 (List.mem_of_getElem? (i := 38) rfl)
theorem cd_198_64 : mt_cd 198 64 = some (.lload 5) := mt_cd_of (q := (64, .lload 5, 2)) mq_198 ci_198 (List.mem_of_getElem? (i := 39) rfl)
theorem cd_198_66 : mt_cd 198 66 = some (.invokevirtual 548) := mt_cd_of (q := (66, .invokevirtual 548, 3)) mq_198 ci_198 (List.mem_of_getElem? (i := 40) rfl)
theorem cd_198_69 : mt_cd 198 69 = some (.pop) := mt_cd_of (q := (69, .pop, 1)) mq_198 ci_198 (List.mem_of_getElem? (i := 41) rfl)
theorem cd_198_70 : mt_cd 198 70 = some (.aload_n 0) := mt_cd_of (q := (70, .aload_n 0, 1)) mq_198 ci_198 (List.mem_of_getElem? (i := 42) rfl)
theorem cd_198_71 : mt_cd 198 71 = some (.aload_n 1) := mt_cd_of (q := (71, .aload_n 1, 1)) mq_198 ci_198 (List.mem_of_getElem? (i := 43) rfl)
theorem cd_198_72 : mt_cd 198 72 = some (.aload_n 2) := mt_cd_of (q := (72, .aload_n 2, 1)) mq_198 ci_198 (List.mem_of_getElem? (i := 44) rfl)
theorem cd_198_73 : mt_cd 198 73 = some (.iconst 2) := mt_cd_of (q := (73, .iconst 2, 1)) mq_198 ci_198 (List.mem_of_getElem? (i := 45) rfl)
theorem cd_198_74 : mt_cd 198 74 = some (.lload 5) := mt_cd_of (q := (74, .lload 5, 2)) mq_198 ci_198 (List.mem_of_getElem? (i := 46) rfl)
theorem cd_198_76 : mt_cd 198 76 = some (.iload_n 3) := mt_cd_of (q := (76, .iload_n 3, 1)) mq_198 ci_198 (List.mem_of_getElem? (i := 47) rfl)
theorem cd_198_77 : mt_cd 198 77 = some (.invokevirtual 586) := mt_cd_of (q := (77, .invokevirtual 586, 3)) mq_198 ci_198 (List.mem_of_getElem? (i := 48) rfl)
theorem cd_198_80 : mt_cd 198 80 = some (.istore 7) := mt_cd_of (q := (80, .istore 7, 2)) mq_198 ci_198 (List.mem_of_getElem? (i := 49) rfl)
theorem cd_198_82 : mt_cd 198 82 = some (.iload 7) := mt_cd_of (q := (82, .iload 7, 2)) mq_198 ci_198 (List.mem_of_getElem? (i := 50) rfl)
theorem cd_198_84 : mt_cd 198 84 = some (.ifCond .eq 6) := mt_cd_of (q := (84, .ifCond .eq 6, 3)) mq_198 ci_198 (List.mem_of_getElem? (i := 51) rfl)
theorem cd_198_87 : mt_cd 198 87 = some (.iload 7) := mt_cd_of (q := (87, .iload 7, 2)) mq_198 ci_198 (List.mem_of_getElem? (i := 52) rfl)
theorem cd_198_89 : mt_cd 198 89 = some (.ireturn) := mt_cd_of (q := (89, .ireturn, 1)) mq_198 ci_198 (List.mem_of_getElem? (i := 53) rfl)
theorem cd_198_90 : mt_cd 198 90 = some (.lload 5) := mt_cd_of (q := (90, .lload 5, 2)) mq_198 ci_198 (List.mem_of_getElem? (i := 54) rfl)
theorem cd_198_92 : mt_cd 198 92 = some (.lconst 1) := mt_cd_of (q := (92, .lconst 1, 1)) mq_198 ci_198 (List.mem_of_getElem? (i := 55) rfl)
theorem cd_198_93 : mt_cd 198 93 = some (.ladd) := mt_cd_of (q := (93, .ladd, 1)) mq_198 ci_198 (List.mem_of_getElem? (i := 56) rfl)
theorem cd_198_94 : mt_cd 198 94 = some (.lstore 5) := mt_cd_of (q := (94, .lstore 5, 2)) mq_198 ci_198 (List.mem_of_getElem? (i := 57) rfl)
theorem cd_198_96 : mt_cd 198 96 = some (.goto (-61)) := mt_cd_of (q := (96, .goto (-61), 3)) mq_198 ci_198 (List.mem_of_getElem? (i := 58) rfl)
theorem cd_198_99 : mt_cd 198 99 = some (.iinc 4 1) := mt_cd_of (q := (99, .iinc 4 1, 3)) mq_198 ci_198 (List.mem_of_getElem? (i := 59) rfl)
theorem cd_198_102 : mt_cd 198 102 = some (.goto (-94)) := mt_cd_of (q := (102, .goto (-94), 3)) mq_198 ci_198 (List.mem_of_getElem? (i := 60) rfl)
theorem cd_198_105 : mt_cd 198 105 = some (.iconst 0) := mt_cd_of (q := (105, .iconst 0, 1)) mq_198 ci_198 (List.mem_of_getElem? (i := 61) rfl)
theorem cd_198_106 : mt_cd 198 106 = some (.ireturn) := mt_cd_of (q := (106, .ireturn, 1)) mq_198 ci_198 (List.mem_of_getElem? (i := 62) rfl)
theorem b_198_0 {d : Nat} {Q : (Option Value ⊕ Nat) → mi_H → Prop} (n sl : Nat) (f : Nat → mi_C) {l1 : Nat} {l2 : Nat} {l3 : Nat} {l4 : Int32} {o5 : Option Value} {o6 : Option Value} {o7 : Option Value} {o8 : Option Value} {fs9 : List Value} {x12 : Nat} (m14 i14 : Nat) (g14 : Nat → Int32) (h10 : f l1 = .inr (12, fs9)) (h11 : l1 < n) (h13 : fs9[40]? = some (.ref x12)) (h15 : f x12 = .inl (0, m14, .inl g14)) (h16 : x12 < n ∨ x12 = mi_SC) (h17 : mi_ix l4 m14 i14) (h18 : mi_W d 198 8 [some (.ref l1), some (.ref l2), some (.ref l3), some (.int l4), some (.int (g14 i14)), o6, o7, o8] [] (n, sl, f) Q) : mi_W d 198 0 [some (.ref l1), some (.ref l2), some (.ref l3), some (.int l4), o5, o6, o7, o8] [] (n, sl, f) Q := by
  refine w_aload_n cd_198_0 rfl ?_
  refine w_getfield cd_198_1 (show mt_f 12 141 = some (12, 40) by decide +kernel) h10 h11 h13 ?_
  refine w_iload_n cd_198_4 rfl ?_
  refine w_iaload cd_198_5 h15 h16 h17 ?_
  refine w_istore (ls' := [some (.ref l1), some (.ref l2), some (.ref l3), some (.int l4), some (.int (g14 i14)), o6, o7, o8]) cd_198_6 (Nat.le_of_ble_eq_true rfl) rfl ?_
  exact h18
theorem b_198_8 {d : Nat} {Q : (Option Value ⊕ Nat) → mi_H → Prop} (n sl : Nat) (f : Nat → mi_C) {l1 : Nat} {l2 : Nat} {l3 : Nat} {l4 : Int32} {l5 : Int32} {o6 : Option Value} {o7 : Option Value} {o8 : Option Value} {fs9 : List Value} {x12 : Nat} (m14 i14 : Nat) (g14 : Nat → Int32) {fs18 : List Value} {x21 : Nat} (m23 i23 : Nat) (g23 : Nat → Int32) (h10 : f l1 = .inr (12, fs9)) (h11 : l1 < n) (h13 : fs9[40]? = some (.ref x12)) (h15 : f x12 = .inl (0, m14, .inl g14)) (h16 : x12 < n ∨ x12 = mi_SC) (h17 : mi_ix l4 m14 i14) (h19 : f l1 = .inr (12, fs18)) (h20 : l1 < n) (h22 : fs18[18]? = some (.ref x21)) (h24 : f x21 = .inl (0, m23, .inl g23)) (h25 : x21 < n ∨ x21 = mi_SC) (h26 : mi_ix l4 m23 i23) (h27 : ((g14 i14) + (g23 i23)) ≤ l5 → mi_W d 198 105 [some (.ref l1), some (.ref l2), some (.ref l3), some (.int l4), some (.int l5), o6, o7, o8] [] (n, sl, f) Q) (h28 : ¬ (((g14 i14) + (g23 i23)) ≤ l5) → mi_W d 198 26 [some (.ref l1), some (.ref l2), some (.ref l3), some (.int l4), some (.int l5), o6, o7, o8] [] (n, sl, f) Q) : mi_W d 198 8 [some (.ref l1), some (.ref l2), some (.ref l3), some (.int l4), some (.int l5), o6, o7, o8] [] (n, sl, f) Q := by
  refine w_iload cd_198_8 rfl ?_
  refine w_aload_n cd_198_10 rfl ?_
  refine w_getfield cd_198_11 (show mt_f 12 141 = some (12, 40) by decide +kernel) h10 h11 h13 ?_
  refine w_iload_n cd_198_14 rfl ?_
  refine w_iaload cd_198_15 h15 h16 h17 ?_
  refine w_aload_n cd_198_16 rfl ?_
  refine w_getfield cd_198_17 (show mt_f 12 95 = some (12, 18) by decide +kernel) h19 h20 h22 ?_
  refine w_iload_n cd_198_20 rfl ?_
  refine w_iaload cd_198_21 h24 h25 h26 ?_
  refine w_iadd cd_198_22 ?_
  exact w_if_icmpge cd_198_23 (by decide) h27 h28
theorem b_198_26 {d : Nat} {Q : (Option Value ⊕ Nat) → mi_H → Prop} (n sl : Nat) (f : Nat → mi_C) {l1 : Nat} {l2 : Nat} {l3 : Nat} {l4 : Int32} {l5 : Int32} {o6 : Option Value} {o7 : Option Value} {o8 : Option Value} {fs9 : List Value} {x12 : Nat} (m14 i14 : Nat) (g14 : Nat → Int64) (h10 : f l1 = .inr (12, fs9)) (h11 : l1 < n) (h13 : fs9[28]? = some (.ref x12)) (h15 : f x12 = .inl (3, m14, .inr (.inl g14))) (h16 : x12 < n) (h17 : mi_ix l5 m14 i14) (h18 : mi_W d 198 35 [some (.ref l1), some (.ref l2), some (.ref l3), some (.int l4), some (.int l5), some (.long (g14 i14)), none, o8] [] (n, sl, f) Q) : mi_W d 198 26 [some (.ref l1), some (.ref l2), some (.ref l3), some (.int l4), some (.int l5), o6, o7, o8] [] (n, sl, f) Q := by
  refine w_aload_n cd_198_26 rfl ?_
  refine w_getfield cd_198_27 (show mt_f 12 105 = some (12, 28) by decide +kernel) h10 h11 h13 ?_
  refine w_iload cd_198_30 rfl ?_
  refine w_laload cd_198_32 h15 h16 h17 ?_
  refine w_lstore (ls' := [some (.ref l1), some (.ref l2), some (.ref l3), some (.int l4), some (.int l5), some (.long (g14 i14)), none, o8]) cd_198_33 (Nat.le_of_ble_eq_true rfl) rfl ?_
  exact h18
theorem b_198_35 {d : Nat} {Q : (Option Value ⊕ Nat) → mi_H → Prop} (n sl : Nat) (f : Nat → mi_C) {l1 : Nat} {l2 : Nat} {l3 : Nat} {l4 : Int32} {l5 : Int32} {l6 : Int64} {o7 : Option Value} {fs8 : List Value} {x11 : Nat} (m13 i13 : Nat) (g13 : Nat → Int64) (h9 : f l1 = .inr (12, fs8)) (h10 : l1 < n) (h12 : fs8[29]? = some (.ref x11)) (h14 : f x11 = .inl (3, m13, .inr (.inl g13))) (h15 : x11 < n) (h16 : mi_ix l5 m13 i13) (h17 : (0 : Int32) < (lg_cmp l6 (g13 i13)) → mi_W d 198 99 [some (.ref l1), some (.ref l2), some (.ref l3), some (.int l4), some (.int l5), some (.long l6), none, o7] [] (n, sl, f) Q) (h18 : ¬ ((0 : Int32) < (lg_cmp l6 (g13 i13))) → mi_W d 198 48 [some (.ref l1), some (.ref l2), some (.ref l3), some (.int l4), some (.int l5), some (.long l6), none, o7] [] (n, sl, f) Q) : mi_W d 198 35 [some (.ref l1), some (.ref l2), some (.ref l3), some (.int l4), some (.int l5), some (.long l6), none, o7] [] (n, sl, f) Q := by
  refine w_lload cd_198_35 rfl ?_
  refine w_aload_n cd_198_37 rfl ?_
  refine w_getfield cd_198_38 (show mt_f 12 108 = some (12, 29) by decide +kernel) h9 h10 h12 ?_
  refine w_iload cd_198_41 rfl ?_
  refine w_laload cd_198_43 h14 h15 h16 ?_
  refine w_lcmp cd_198_44 ?_
  exact w_ifgt cd_198_45 (by decide) h17 h18
theorem b_198_48 {d : Nat} {Q : (Option Value ⊕ Nat) → mi_H → Prop} (n sl : Nat) (f : Nat → mi_C) {l1 : Nat} {l2 : Nat} {l3 : Nat} {l4 : Int32} {l5 : Int32} {l6 : Int64} {o7 : Option Value} {fs8 : List Value} {fs12 : List Value} {x15 : Nat} (m17 i17 : Nat) (g17 : Nat → Int32) {fs21 : List Value} (h9 : f l1 = .inr (12, fs8)) (h10 : l1 < n) (h11 : 59 < fs8.length) (h13 : (va_up f l1 (.inr (12, fs8.set 59 (.int 0)))) l1 = .inr (12, fs12)) (h14 : l1 < n) (h16 : fs12[13]? = some (.ref x15)) (h18 : (va_up f l1 (.inr (12, fs8.set 59 (.int 0)))) x15 = .inl (0, m17, .inl g17)) (h19 : x15 < n ∨ x15 = mi_SC) (h20 : mi_ix l4 m17 i17) (h22 : (va_up f l1 (.inr (12, fs8.set 59 (.int 0)))) l1 = .inr (12, fs21)) (h23 : l1 < n) (h24 : mi_W d 187 0 (mi_en 7 [.ref l1, .int 8, .int (g17 i17), .int 0, .int 0, .long l6]) [] (n, sl, (va_up f l1 (.inr (12, fs8.set 59 (.int 0))))) (mi_Kc d 198 66 [some (.ref l1), some (.ref l2), some (.ref l3), some (.int l4), some (.int l5), some (.long l6), none, o7] [] Q)) : mi_W (d + 1) 198 48 [some (.ref l1), some (.ref l2), some (.ref l3), some (.int l4), some (.int l5), some (.long l6), none, o7] [] (n, sl, f) Q := by
  refine w_aload_n cd_198_48 rfl ?_
  refine w_iconst (v := 0) cd_198_49 (by decide) ?_
  refine w_putfield (w := .int 0) cd_198_50 (show mt_f 12 258 = some (12, 59) by decide +kernel) h9 h10 ⟨h11, rfl, Or.inl (by decide)⟩ ?_
  refine w_aload_n cd_198_53 rfl ?_
  refine w_bipush (v := 8) cd_198_54 (by decide) ?_
  refine w_aload_n cd_198_56 rfl ?_
  refine w_getfield cd_198_57 (show mt_f 12 80 = some (12, 13) by decide +kernel) h13 h14 h16 ?_
  refine w_iload_n cd_198_60 rfl ?_
  refine w_iaload cd_198_61 h18 h19 h20 ?_
  refine w_iconst (v := 0) cd_198_62 (by decide) ?_
  refine w_iconst (v := 0) cd_198_63 (by decide) ?_
  refine w_lload cd_198_64 rfl ?_
  exact w_invokevirtual cd_198_66 (show mt_m 12 548 = some (187, 0) by decide +kernel) (rest := []) rfl (as := [.ref l1, .int 8, .int (g17 i17), .int 0, .int 0, .long l6]) rfl h22 (Or.inl h23) ⟨Nat.le_of_ble_eq_true rfl, Nat.le_of_ble_eq_true rfl, Nat.le_of_ble_eq_true rfl⟩ h24
theorem b_198_69 {d : Nat} {Q : (Option Value ⊕ Nat) → mi_H → Prop} (n sl : Nat) (f : Nat → mi_C) {l1 : Nat} {l2 : Nat} {l3 : Nat} {l4 : Int32} {l5 : Int32} {l6 : Int64} {o7 : Option Value} {s8 : Int32} {fs9 : List Value} (h10 : f l1 = .inr (12, fs9)) (h11 : l1 < n) (h12 : mi_W d 199 0 (mi_en 8 [.ref l1, .ref l2, .ref l3, .int 2, .long l6, .int l4]) [] (n, sl, f) (mi_Kc d 198 77 [some (.ref l1), some (.ref l2), some (.ref l3), some (.int l4), some (.int l5), some (.long l6), none, o7] [] Q)) : mi_W (d + 1) 198 69 [some (.ref l1), some (.ref l2), some (.ref l3), some (.int l4), some (.int l5), some (.long l6), none, o7] [.int s8] (n, sl, f) Q := by
  refine w_pop_i cd_198_69 ?_
  refine w_aload_n cd_198_70 rfl ?_
  refine w_aload_n cd_198_71 rfl ?_
  refine w_aload_n cd_198_72 rfl ?_
  refine w_iconst (v := 2) cd_198_73 (by decide) ?_
  refine w_lload cd_198_74 rfl ?_
  refine w_iload_n cd_198_76 rfl ?_
  exact w_invokevirtual cd_198_77 (show mt_m 12 586 = some (199, 0) by decide +kernel) (rest := []) rfl (as := [.ref l1, .ref l2, .ref l3, .int 2, .long l6, .int l4]) rfl h10 (Or.inl h11) ⟨Nat.le_of_ble_eq_true rfl, Nat.le_of_ble_eq_true rfl, Nat.le_of_ble_eq_true rfl⟩ h12
theorem b_198_80 {d : Nat} {Q : (Option Value ⊕ Nat) → mi_H → Prop} (n sl : Nat) (f : Nat → mi_C) {l1 : Nat} {l2 : Nat} {l3 : Nat} {l4 : Int32} {l5 : Int32} {l6 : Int64} {o7 : Option Value} {s8 : Int32} (h9 : s8 = (0 : Int32) → mi_W d 198 90 [some (.ref l1), some (.ref l2), some (.ref l3), some (.int l4), some (.int l5), some (.long l6), none, some (.int s8)] [] (n, sl, f) Q) (h10 : ¬ (s8 = (0 : Int32)) → mi_W d 198 87 [some (.ref l1), some (.ref l2), some (.ref l3), some (.int l4), some (.int l5), some (.long l6), none, some (.int s8)] [] (n, sl, f) Q) : mi_W d 198 80 [some (.ref l1), some (.ref l2), some (.ref l3), some (.int l4), some (.int l5), some (.long l6), none, o7] [.int s8] (n, sl, f) Q := by
  refine w_istore (ls' := [some (.ref l1), some (.ref l2), some (.ref l3), some (.int l4), some (.int l5), some (.long l6), none, some (.int s8)]) cd_198_80 (Nat.le_of_ble_eq_true rfl) rfl ?_
  refine w_iload cd_198_82 rfl ?_
  exact w_ifeq cd_198_84 (by decide) h9 h10
theorem b_198_87 {d : Nat} {Q : (Option Value ⊕ Nat) → mi_H → Prop} (n sl : Nat) (f : Nat → mi_C) {l1 : Nat} {l2 : Nat} {l3 : Nat} {l4 : Int32} {l5 : Int32} {l6 : Int64} {l7 : Int32} (h8 : Q (.inl (some (.int l7))) (n, sl, f)) : mi_W d 198 87 [some (.ref l1), some (.ref l2), some (.ref l3), some (.int l4), some (.int l5), some (.long l6), none, some (.int l7)] [] (n, sl, f) Q := by
  refine w_iload cd_198_87 rfl ?_
  exact w_ireturn_i cd_198_89 (by decide +kernel) h8
theorem b_198_90 {d : Nat} {Q : (Option Value ⊕ Nat) → mi_H → Prop} (n sl : Nat) (f : Nat → mi_C) {l1 : Nat} {l2 : Nat} {l3 : Nat} {l4 : Int32} {l5 : Int32} {l6 : Int64} {l7 : Int32} (h8 : mi_W d 198 35 [some (.ref l1), some (.ref l2), some (.ref l3), some (.int l4), some (.int l5), some (.long (l6 + 1)), none, some (.int l7)] [] (n, sl, f) Q) : mi_W d 198 90 [some (.ref l1), some (.ref l2), some (.ref l3), some (.int l4), some (.int l5), some (.long l6), none, some (.int l7)] [] (n, sl, f) Q := by
  refine w_lload cd_198_90 rfl ?_
  refine w_lconst (lv := 1) cd_198_92 (by decide) ?_
  refine w_ladd cd_198_93 ?_
  refine w_lstore (ls' := [some (.ref l1), some (.ref l2), some (.ref l3), some (.int l4), some (.int l5), some (.long (l6 + 1)), none, some (.int l7)]) cd_198_94 (Nat.le_of_ble_eq_true rfl) rfl ?_
  exact w_goto cd_198_96 (by decide) h8
theorem b_198_99 {d : Nat} {Q : (Option Value ⊕ Nat) → mi_H → Prop} (n sl : Nat) (f : Nat → mi_C) {l1 : Nat} {l2 : Nat} {l3 : Nat} {l4 : Int32} {l5 : Int32} {l6 : Int64} {o7 : Option Value} (h8 : mi_W d 198 8 [some (.ref l1), some (.ref l2), some (.ref l3), some (.int l4), some (.int (l5 + 1)), some (.long l6), none, o7] [] (n, sl, f) Q) : mi_W d 198 99 [some (.ref l1), some (.ref l2), some (.ref l3), some (.int l4), some (.int l5), some (.long l6), none, o7] [] (n, sl, f) Q := by
  refine w_iinc (v := 1) (ls' := [some (.ref l1), some (.ref l2), some (.ref l3), some (.int l4), some (.int (l5 + 1)), some (.long l6), none, o7]) cd_198_99 rfl (by decide) rfl ?_
  exact w_goto cd_198_102 (by decide) h8
theorem b_198_105 {d : Nat} {Q : (Option Value ⊕ Nat) → mi_H → Prop} (n sl : Nat) (f : Nat → mi_C) {l1 : Nat} {l2 : Nat} {l3 : Nat} {l4 : Int32} {l5 : Int32} {o6 : Option Value} {o7 : Option Value} {o8 : Option Value} (h9 : Q (.inl (some (.int 0))) (n, sl, f)) : mi_W d 198 105 [some (.ref l1), some (.ref l2), some (.ref l3), some (.int l4), some (.int l5), o6, o7, o8] [] (n, sl, f) Q := by
  refine w_iconst (v := 0) cd_198_105 (by decide) ?_
  exact w_ireturn_i cd_198_106 (by decide +kernel) h9
/-! MarloweHostModel.tried(LMarloweHostModel$State;LMarloweHostModel$State;IJI)I -/
set_option maxRecDepth 100000 in
theorem mq_199 : mt_q 199 = my_199 := rfl
set_option maxRecDepth 100000 in
theorem ci_199 : mt_inc 0 my_199.cd = true := by decide +kernel
theorem cd_199_0 : mt_cd 199 0 = some (.aload_n 0) := mt_cd_of (q := (0, .aload_n 0, 1)) mq_199 ci_199 (List.mem_of_getElem? (i := 0) rfl)
theorem cd_199_1 : mt_cd 199 1 = some (.aload_n 2) := mt_cd_of (q := (1, .aload_n 2, 1)) mq_199 ci_199 (List.mem_of_getElem? (i := 1) rfl)
theorem cd_199_2 : mt_cd 199 2 = some (.putfield 445) := mt_cd_of (q := (2, .putfield 445, 3)) mq_199 ci_199 (List.mem_of_getElem? (i := 2) rfl)
theorem cd_199_5 : mt_cd 199 5 = some (.aload_n 2) := mt_cd_of (q := (5, .aload_n 2, 1)) mq_199 ci_199 (List.mem_of_getElem? (i := 3) rfl)
theorem cd_199_6 : mt_cd 199 6 = some (.aload_n 1) := mt_cd_of (q := (6, .aload_n 1, 1)) mq_199 ci_199 (List.mem_of_getElem? (i := 4) rfl)
theorem cd_199_7 : mt_cd 199 7 = some (.invokevirtual 525) := mt_cd_of (q := (7, .invokevirtual 525, 3)) mq_199 ci_199 (List.mem_of_getElem? (i := 5) rfl)
theorem cd_199_10 : mt_cd 199 10 = some (.aload_n 0) := mt_cd_of (q := (10, .aload_n 0, 1)) mq_199 ci_199 (List.mem_of_getElem? (i := 6) rfl)
theorem cd_199_11 : mt_cd 199 11 = some (.aload_n 1) := mt_cd_of (q := (11, .aload_n 1, 1)) mq_199 ci_199 (List.mem_of_getElem? (i := 7) rfl)
theorem cd_199_12 : mt_cd 199 12 = some (.getfield 516) := mt_cd_of (q := (12, .getfield 516, 3)) mq_199 ci_199 (List.mem_of_getElem? (i := 8) rfl)
theorem cd_199_15 : mt_cd 199 15 = some (.aload_n 1) := mt_cd_of (q := (15, .aload_n 1, 1)) mq_199 ci_199 (List.mem_of_getElem? (i := 9) rfl)
theorem cd_199_16 : mt_cd 199 16 = some (.getfield 516) := mt_cd_of (q := (16, .getfield 516, 3)) mq_199 ci_199 (List.mem_of_getElem? (i := 10) rfl)
theorem cd_199_19 : mt_cd 199 19 = some (.iconst 1) := mt_cd_of (q := (19, .iconst 1, 1)) mq_199 ci_199 (List.mem_of_getElem? (i := 11) rfl)
theorem cd_199_20 : mt_cd 199 20 = some (.invokevirtual 529) := mt_cd_of (q := (20, .invokevirtual 529, 3)) mq_199 ci_199 (List.mem_of_getElem? (i := 12) rfl)
theorem cd_199_23 : mt_cd 199 23 = some (.istore 7) := mt_cd_of (q := (23, .istore 7, 2)) mq_199 ci_199 (List.mem_of_getElem? (i := 13) rfl)
theorem cd_199_25 : mt_cd 199 25 = some (.aload_n 0) := mt_cd_of (q := (25, .aload_n 0, 1)) mq_199 ci_199 (List.mem_of_getElem? (i := 14) rfl)
theorem cd_199_26 : mt_cd 199 26 = some (.aload_n 2) := mt_cd_of (q := (26, .aload_n 2, 1)) mq_199 ci_199 (List.mem_of_getElem? (i := 15) rfl)
theorem cd_199_27 : mt_cd 199 27 = some (.iload 7) := mt_cd_of (q := (27, .iload 7, 2)) mq_199 ci_199 (List.mem_of_getElem? (i := 16) rfl)
theorem cd_199_29 : mt_cd 199 29 = some (.iload_n 3) := mt_cd_of (q := (29, .iload_n 3, 1)) mq_199 ci_199 (List.mem_of_getElem? (i := 17) rfl)
theorem cd_199_30 : mt_cd 199 30 = some (.lload 4) := mt_cd_of (q := (30, .lload 4, 2)) mq_199 ci_199 (List.mem_of_getElem? (i := 18) rfl)
theorem cd_199_32 : mt_cd 199 32 = some (.iload 6) := mt_cd_of (q := (32, .iload 6, 2)) mq_199 ci_199 (List.mem_of_getElem? (i := 19) rfl)
theorem cd_199_34 : mt_cd 199 34 = some (.invokevirtual 575) := mt_cd_of (q := (34, .invokevirtual 575, 3)) mq_199 ci_199 (List.mem_of_getElem? (i := 20) rfl)
theorem cd_199_37 : mt_cd 199 37 = some (.ireturn) := mt_cd_of (q := (37, .ireturn, 1)) mq_199 ci_199 (List.mem_of_getElem? (i := 21) rfl)
theorem b_199_0 {d : Nat} {Q : (Option Value ⊕ Nat) → mi_H → Prop} (n sl : Nat) (f : Nat → mi_C) {l1 : Nat} {l2 : Nat} {l3 : Nat} {l4 : Int32} {l5 : Int64} {l6 : Int32} {o7 : Option Value} {fs8 : List Value} {fs12 : List Value} (h9 : f l1 = .inr (12, fs8)) (h10 : l1 < n) (h11 : 43 < fs8.length) (h13 : (va_up f l1 (.inr (12, fs8.set 43 (.ref l3)))) l3 = .inr (13, fs12)) (h14 : l3 < n) (h15 : mi_W d 172 0 (mi_en 3 [.ref l3, .ref l2]) [] (n, sl, (va_up f l1 (.inr (12, fs8.set 43 (.ref l3))))) (mi_Kc d 199 7 [some (.ref l1), some (.ref l2), some (.ref l3), some (.int l4), some (.long l5), none, some (.int l6), o7] [] Q)) : mi_W (d + 1) 199 0 [some (.ref l1), some (.ref l2), some (.ref l3), some (.int l4), some (.long l5), none, some (.int l6), o7] [] (n, sl, f) Q := by
  refine w_aload_n cd_199_0 rfl ?_
  refine w_aload_n cd_199_1 rfl ?_
  refine w_putfield (w := .ref l3) cd_199_2 (show mt_f 12 445 = some (12, 43) by decide +kernel) h9 h10 ⟨h11, rfl, Or.inl (by decide)⟩ ?_
  refine w_aload_n cd_199_5 rfl ?_
  refine w_aload_n cd_199_6 rfl ?_
  exact w_invokevirtual cd_199_7 (show mt_m 12 525 = some (172, 0) by decide +kernel) (rest := []) rfl (as := [.ref l3, .ref l2]) rfl h13 (Or.inl h14) ⟨Nat.le_of_ble_eq_true rfl, Nat.le_of_ble_eq_true rfl, Nat.le_of_ble_eq_true rfl⟩ h15
theorem b_199_10 {d : Nat} {Q : (Option Value ⊕ Nat) → mi_H → Prop} (n sl : Nat) (f : Nat → mi_C) {l1 : Nat} {l2 : Nat} {l3 : Nat} {l4 : Int32} {l5 : Int64} {l6 : Int32} {o7 : Option Value} {fs8 : List Value} {x11 : Int64} {fs13 : List Value} {x16 : Int64} {fs18 : List Value} (h9 : f l2 = .inr (13, fs8)) (h10 : l2 < n) (h12 : fs8[1]? = some (.long x11)) (h14 : f l2 = .inr (13, fs13)) (h15 : l2 < n) (h17 : fs13[1]? = some (.long x16)) (h19 : f l1 = .inr (12, fs18)) (h20 : l1 < n) (h21 : mi_W d 173 0 (mi_en 8 [.ref l1, .long x11, .long x16, .int 1]) [] (n, sl, f) (mi_Kc d 199 20 [some (.ref l1), some (.ref l2), some (.ref l3), some (.int l4), some (.long l5), none, some (.int l6), o7] [] Q)) : mi_W (d + 1) 199 10 [some (.ref l1), some (.ref l2), some (.ref l3), some (.int l4), some (.long l5), none, some (.int l6), o7] [] (n, sl, f) Q := by
  refine w_aload_n cd_199_10 rfl ?_
  refine w_aload_n cd_199_11 rfl ?_
  refine w_getfield cd_199_12 (show mt_f 12 516 = some (13, 1) by decide +kernel) h9 h10 h12 ?_
  refine w_aload_n cd_199_15 rfl ?_
  refine w_getfield cd_199_16 (show mt_f 12 516 = some (13, 1) by decide +kernel) h14 h15 h17 ?_
  refine w_iconst (v := 1) cd_199_19 (by decide) ?_
  exact w_invokevirtual cd_199_20 (show mt_m 12 529 = some (173, 0) by decide +kernel) (rest := []) rfl (as := [.ref l1, .long x11, .long x16, .int 1]) rfl h19 (Or.inl h20) ⟨Nat.le_of_ble_eq_true rfl, Nat.le_of_ble_eq_true rfl, Nat.le_of_ble_eq_true rfl⟩ h21
theorem b_199_23 {d : Nat} {Q : (Option Value ⊕ Nat) → mi_H → Prop} (n sl : Nat) (f : Nat → mi_C) {l1 : Nat} {l2 : Nat} {l3 : Nat} {l4 : Int32} {l5 : Int64} {l6 : Int32} {o7 : Option Value} {s8 : Int32} {fs9 : List Value} (h10 : f l1 = .inr (12, fs9)) (h11 : l1 < n) (h12 : mi_W d 197 0 (mi_en 8 [.ref l1, .ref l3, .int s8, .int l4, .long l5, .int l6]) [] (n, sl, f) (mi_Kc d 199 34 [some (.ref l1), some (.ref l2), some (.ref l3), some (.int l4), some (.long l5), none, some (.int l6), some (.int s8)] [] Q)) : mi_W (d + 1) 199 23 [some (.ref l1), some (.ref l2), some (.ref l3), some (.int l4), some (.long l5), none, some (.int l6), o7] [.int s8] (n, sl, f) Q := by
  refine w_istore (ls' := [some (.ref l1), some (.ref l2), some (.ref l3), some (.int l4), some (.long l5), none, some (.int l6), some (.int s8)]) cd_199_23 (Nat.le_of_ble_eq_true rfl) rfl ?_
  refine w_aload_n cd_199_25 rfl ?_
  refine w_aload_n cd_199_26 rfl ?_
  refine w_iload cd_199_27 rfl ?_
  refine w_iload_n cd_199_29 rfl ?_
  refine w_lload cd_199_30 rfl ?_
  refine w_iload cd_199_32 rfl ?_
  exact w_invokevirtual cd_199_34 (show mt_m 12 575 = some (197, 0) by decide +kernel) (rest := []) rfl (as := [.ref l1, .ref l3, .int s8, .int l4, .long l5, .int l6]) rfl h10 (Or.inl h11) ⟨Nat.le_of_ble_eq_true rfl, Nat.le_of_ble_eq_true rfl, Nat.le_of_ble_eq_true rfl⟩ h12
theorem b_199_37 {d : Nat} {Q : (Option Value ⊕ Nat) → mi_H → Prop} (n sl : Nat) (f : Nat → mi_C) {l1 : Nat} {l2 : Nat} {l3 : Nat} {l4 : Int32} {l5 : Int64} {l6 : Int32} {l7 : Int32} {s8 : Int32} (h9 : Q (.inl (some (.int s8))) (n, sl, f)) : mi_W d 199 37 [some (.ref l1), some (.ref l2), some (.ref l3), some (.int l4), some (.long l5), none, some (.int l6), some (.int l7)] [.int s8] (n, sl, f) Q := by
  exact w_ireturn_i cd_199_37 (by decide +kernel) h9
/-! MarloweHostModel.one(LMarloweHostModel$State;LMarloweHostModel$State;I)I -/
set_option maxRecDepth 100000 in
theorem mq_200 : mt_q 200 = my_200 := rfl
set_option maxRecDepth 100000 in
theorem ci_200 : mt_inc 0 my_200.cd = true := by decide +kernel
theorem cd_200_0 : mt_cd 200 0 = some (.aload_n 0) := mt_cd_of (q := (0, .aload_n 0, 1)) mq_200 ci_200 (List.mem_of_getElem? (i := 0) rfl)
theorem cd_200_1 : mt_cd 200 1 = some (.aload_n 2) := mt_cd_of (q := (1, .aload_n 2, 1)) mq_200 ci_200 (List.mem_of_getElem? (i := 1) rfl)
theorem cd_200_2 : mt_cd 200 2 = some (.putfield 445) := mt_cd_of (q := (2, .putfield 445, 3)) mq_200 ci_200 (List.mem_of_getElem? (i := 2) rfl)
theorem cd_200_5 : mt_cd 200 5 = some (.aload_n 2) := mt_cd_of (q := (5, .aload_n 2, 1)) mq_200 ci_200 (List.mem_of_getElem? (i := 3) rfl)
theorem cd_200_6 : mt_cd 200 6 = some (.aload_n 1) := mt_cd_of (q := (6, .aload_n 1, 1)) mq_200 ci_200 (List.mem_of_getElem? (i := 4) rfl)
theorem cd_200_7 : mt_cd 200 7 = some (.invokevirtual 525) := mt_cd_of (q := (7, .invokevirtual 525, 3)) mq_200 ci_200 (List.mem_of_getElem? (i := 5) rfl)
theorem cd_200_10 : mt_cd 200 10 = some (.aload_n 0) := mt_cd_of (q := (10, .aload_n 0, 1)) mq_200 ci_200 (List.mem_of_getElem? (i := 6) rfl)
theorem cd_200_11 : mt_cd 200 11 = some (.aload_n 1) := mt_cd_of (q := (11, .aload_n 1, 1)) mq_200 ci_200 (List.mem_of_getElem? (i := 7) rfl)
theorem cd_200_12 : mt_cd 200 12 = some (.getfield 516) := mt_cd_of (q := (12, .getfield 516, 3)) mq_200 ci_200 (List.mem_of_getElem? (i := 8) rfl)
theorem cd_200_15 : mt_cd 200 15 = some (.putfield 471) := mt_cd_of (q := (15, .putfield 471, 3)) mq_200 ci_200 (List.mem_of_getElem? (i := 9) rfl)
theorem cd_200_18 : mt_cd 200 18 = some (.aload_n 0) := mt_cd_of (q := (18, .aload_n 0, 1)) mq_200 ci_200 (List.mem_of_getElem? (i := 10) rfl)
theorem cd_200_19 : mt_cd 200 19 = some (.aload_n 1) := mt_cd_of (q := (19, .aload_n 1, 1)) mq_200 ci_200 (List.mem_of_getElem? (i := 11) rfl)
theorem cd_200_20 : mt_cd 200 20 = some (.getfield 516) := mt_cd_of (q := (20, .getfield 516, 3)) mq_200 ci_200 (List.mem_of_getElem? (i := 12) rfl)
theorem cd_200_23 : mt_cd 200 23 = some (.putfield 474) := mt_cd_of (q := (23, .putfield 474, 3)) mq_200 ci_200 (List.mem_of_getElem? (i := 13) rfl)
theorem cd_200_26 : mt_cd 200 26 = some (.aload_n 0) := mt_cd_of (q := (26, .aload_n 0, 1)) mq_200 ci_200 (List.mem_of_getElem? (i := 14) rfl)
theorem cd_200_27 : mt_cd 200 27 = some (.iconst 0) := mt_cd_of (q := (27, .iconst 0, 1)) mq_200 ci_200 (List.mem_of_getElem? (i := 15) rfl)
theorem cd_200_28 : mt_cd 200 28 = some (.putfield 441) := mt_cd_of (q := (28, .putfield 441, 3)) mq_200 ci_200 (List.mem_of_getElem? (i := 16) rfl)
theorem cd_200_31 : mt_cd 200 31 = some (.aload_n 0) := mt_cd_of (q := (31, .aload_n 0, 1)) mq_200 ci_200 (List.mem_of_getElem? (i := 17) rfl)
theorem cd_200_32 : mt_cd 200 32 = some (.iconst 0) := mt_cd_of (q := (32, .iconst 0, 1)) mq_200 ci_200 (List.mem_of_getElem? (i := 18) rfl)
theorem cd_200_33 : mt_cd 200 33 = some (.putfield 258) := mt_cd_of (q := (33, .putfield 258, 3)) mq_200 ci_200 (List.mem_of_getElem? (i := 19) rfl)
theorem cd_200_36 : mt_cd 200 36 = some (.aload_n 0) := mt_cd_of (q := (36, .aload_n 0, 1)) mq_200 ci_200 (List.mem_of_getElem? (i := 20) rfl)
theorem cd_200_37 : mt_cd 200 37 = some (.getfield 77) := mt_cd_of (q := (37, .getfield 77, 3)) mq_200 ci_200 (List.mem_of_getElem? (i := 21) rfl)
theorem cd_200_40 : mt_cd 200 40 = some (.iload_n 3) := mt_cd_of (q := (40, .iload_n 3, 1)) mq_200 ci_200 (List.mem_of_getElem? (i := 22) rfl)
theorem cd_200_41 : mt_cd 200 41 = some (.iaload) := mt_cd_of (q := (41, .iaload, 1)) mq_200 ci_200 (List.mem_of_getElem? (i := 23) rfl)
theorem cd_200_42 : mt_cd 200 42 = some (.bipush 7) := mt_cd_of (q := (42, .bipush 7, 2)) mq_200 ci_200 (List.mem_of_getElem? (i := 24) rfl)
theorem cd_200_44 : mt_cd 200 44 = some (.if_icmp .ne 71) := mt_cd_of (q := (44, .if_icmp .ne 71, 3)) mq_200 ci_200 (List.mem_of_getElem? (i := 25) rfl)
theorem cd_200_47 : mt_cd 200 47 = some (.aload_n 0) := mt_cd_of (q := (47, .aload_n 0, 1)) mq_200 ci_200 (List.mem_of_getElem? (i := 26) rfl)
theorem cd_200_48 : mt_cd 200 48 = some (.aload_n 0) := mt_cd_of (q := (48, .aload_n 0, 1)) mq_200 ci_200 (List.mem_of_getElem? (i := 27) rfl)
theorem cd_200_49 : mt_cd 200 49 = some (.getfield 89) := mt_cd_of (q := (49, .getfield 89, 3)) mq_200 ci_200 (List.mem_of_getElem? (i := 28) rfl)
theorem cd_200_52 : mt_cd 200 52 = some (.iload_n 3) := mt_cd_of (q := (52, .iload_n 3, 1)) mq_200 ci_200 (List.mem_of_getElem? (i := 29) rfl)
theorem cd_200_53 : mt_cd 200 53 = some (.iaload) := mt_cd_of (q := (53, .iaload, 1)) mq_200 ci_200 (List.mem_of_getElem? (i := 30) rfl)
theorem cd_200_54 : mt_cd 200 54 = some (.invokevirtual 451) := mt_cd_of (q := (54, .invokevirtual 451, 3)) mq_200 ci_200 (List.mem_of_getElem? (i := 31) rfl)
theorem cd_200_57 : mt_cd 200 57 = some (.lstore 4) := mt_cd_of (q := (57, .lstore 4, 2)) mq_200 ci_200 (List.mem_of_getElem? (i := 32) rfl)
theorem cd_200_59 : mt_cd 200 59 = some (.aload_n 0) := mt_cd_of (q := (59, .aload_n 0, 1)) mq_200 ci_200 (List.mem_of_getElem? (i := 33) rfl)
theorem cd_200_60 : mt_cd 200 60 = some (.getfield 441) := mt_cd_of (q := (60, .getfield 441, 3)) mq_200 ci_200 (List.mem_of_getElem? (i := 34) rfl)
theorem cd_200_63 : mt_cd 200 63 = some (.ifCond .eq 14) := mt_cd_of (q := (63, .ifCond .eq 14, 3)) mq_200 ci_200 (List.mem_of_getElem? (i := 35) rfl)
theorem cd_200_66 : mt_cd 200 66 = some (.aload_n 0) := mt_cd_of (q := (66, .aload_n 0, 1)) mq_200 ci_200 (List.mem_of_getElem? (i := 36) rfl)
theorem cd_200_67 : mt_cd 200 67 = some (.aload_n 2) := mt_cd_of (q := (67, .aload_n 2, 1)) mq_200 ci_200 (List.mem_of_getElem? (i := 37) rfl)
theorem cd_200_68 : mt_cd 200 68 = some (.bipush 6) := mt_cd_of (q := (68, .bipush 6, 2)) mq_200 ci_200 (List.mem_of_getElem? (i := 38) rfl)
theorem cd_200_70 : mt_cd 200 70 = some (.iconst 1) := mt_cd_of (q := (70, .iconst 1, 1)) mq_200 ci_200 (List.mem_of_getElem? (i := 39) rfl)
theorem cd_200_71 : mt_cd 200 71 = some (.lconst 0) := mt_cd_of (q := (71, .lconst 0, 1)) mq_200 ci_200 (List.mem_of_getElem? (i := 40) rfl)
theorem cd_200_72 : mt_cd 200 72 = some (.iload_n 3) := mt_cd_of (q := (72, .iload_n 3, 1)) mq_200 ci_200 (List.mem_of_getElem? (i := 41) rfl)
theorem cd_200_73 : mt_cd 200 73 = some (.invokevirtual 575) := mt_cd_of (q := (73, .invokevirtual 575, 3)) mq_200 ci_200 (List.mem_of_getElem? (i := 42) rfl)
theorem cd_200_76 : mt_cd 200 76 = some (.ireturn) := mt_cd_of (q := (76, .ireturn, 1)) mq_200 ci_200 (List.mem_of_getElem? (i := 43) rfl)
theorem cd_200_77 : mt_cd 200 77 = some (.aload_n 0) := mt_cd_of (q := (77, .aload_n 0, 1)) mq_200 ci_200 (List.mem_of_getElem? (i := 44) rfl)
theorem cd_200_78 : mt_cd 200 78 = some (.bipush 7) := mt_cd_of (q := (78, .bipush 7, 2)) mq_200 ci_200 (List.mem_of_getElem? (i := 45) rfl)
theorem cd_200_80 : mt_cd 200 80 = some (.aload_n 0) := mt_cd_of (q := (80, .aload_n 0, 1)) mq_200 ci_200 (List.mem_of_getElem? (i := 46) rfl)
theorem cd_200_81 : mt_cd 200 81 = some (.getfield 80) := mt_cd_of (q := (81, .getfield 80, 3)) mq_200 ci_200 (List.mem_of_getElem? (i := 47) rfl)
theorem cd_200_84 : mt_cd 200 84 = some (.iload_n 3) := mt_cd_of (q := (84, .iload_n 3, 1)) mq_200 ci_200 (List.mem_of_getElem? (i := 48) rfl)
theorem cd_200_85 : mt_cd 200 85 = some (.iaload) := mt_cd_of (q := (85, .iaload, 1)) mq_200 ci_200 (List.mem_of_getElem? (i := 49) rfl)
theorem cd_200_86 : mt_cd 200 86 = some (.aload_n 0) := mt_cd_of (q := (86, .aload_n 0, 1)) mq_200 ci_200 (List.mem_of_getElem? (i := 50) rfl)
theorem cd_200_87 : mt_cd 200 87 = some (.getfield 83) := mt_cd_of (q := (87, .getfield 83, 3)) mq_200 ci_200 (List.mem_of_getElem? (i := 51) rfl)
theorem cd_200_90 : mt_cd 200 90 = some (.iload_n 3) := mt_cd_of (q := (90, .iload_n 3, 1)) mq_200 ci_200 (List.mem_of_getElem? (i := 52) rfl)
theorem cd_200_91 : mt_cd 200 91 = some (.iaload) := mt_cd_of (q := (91, .iaload, 1)) mq_200 ci_200 (List.mem_of_getElem? (i := 53) rfl)
theorem cd_200_92 : mt_cd 200 92 = some (.aload_n 0) := mt_cd_of (q := (92, .aload_n 0, 1)) mq_200 ci_200 (List.mem_of_getElem? (i := 54) rfl)
theorem cd_200_93 : mt_cd 200 93 = some (.getfield 86) := mt_cd_of (q := (93, .getfield 86, 3)) mq_200 ci_200 (List.mem_of_getElem? (i := 55) rfl)
theorem cd_200_96 : mt_cd 200 96 = some (.iload_n 3) := mt_cd_of (q := (96, .iload_n 3, 1)) mq_200 ci_200 (List.mem_of_getElem? (i := 56) rfl)
theorem cd_200_97 : mt_cd 200 97 = some (.iaload) := mt_cd_of (q := (97, .iaload, 1)) mq_200 ci_200 (List.mem_of_getElem? (i := 57) rfl)
theorem cd_200_98 : mt_cd 200 98 = some (.lload 4) := mt_cd_of (q := (98, .lload 4, 2)) mq_200 ci_200 (List.mem_of_getElem? (i := 58) rfl)
theorem cd_200_100 : mt_cd 200 100 = some (.invokevirtual 548) := mt_cd_of (q := (100, .invokevirtual 548, 3)) mq_200 ci_200 (List.mem_of_getElem? (i := 59) rfl)
theorem cd_200_103 : mt_cd 200 103 = some (.pop) := mt_cd_of (q := (103, .pop, 1)) mq_200 ci_200 (List.mem_of_getElem? (i := 60) rfl)
theorem cd_200_104 : mt_cd 200 104 = some (.aload_n 0) := mt_cd_of (q := (104, .aload_n 0, 1)) mq_200 ci_200 (List.mem_of_getElem? (i := 61) rfl)
theorem cd_200_105 : mt_cd 200 105 = some (.aload_n 1) := mt_cd_of (q := (105, .aload_n 1, 1)) mq_200 ci_200 (List.mem_of_getElem? (i := 62) rfl)
theorem cd_200_106 : mt_cd 200 106 = some (.aload_n 2) := mt_cd_of (q := (106, .aload_n 2, 1)) mq_200 ci_200 (List.mem_of_getElem? (i := 63) rfl)
theorem cd_200_107 : mt_cd 200 107 = some (.iconst 1) := mt_cd_of (q := (107, .iconst 1, 1)) mq_200 ci_200 (List.mem_of_getElem? (i := 64) rfl)
theorem cd_200_108 : mt_cd 200 108 = some (.lload 4) := mt_cd_of (q := (108, .lload 4, 2)) mq_200 ci_200 (List.mem_of_getElem? (i := 65) rfl)
theorem cd_200_110 : mt_cd 200 110 = some (.iload_n 3) := mt_cd_of (q := (110, .iload_n 3, 1)) mq_200 ci_200 (List.mem_of_getElem? (i := 66) rfl)
theorem cd_200_111 : mt_cd 200 111 = some (.invokevirtual 586) := mt_cd_of (q := (111, .invokevirtual 586, 3)) mq_200 ci_200 (List.mem_of_getElem? (i := 67) rfl)
theorem cd_200_114 : mt_cd 200 114 = some (.ireturn) := mt_cd_of (q := (114, .ireturn, 1)) mq_200 ci_200 (List.mem_of_getElem? (i := 68) rfl)
theorem cd_200_115 : mt_cd 200 115 = some (.aload_n 0) := mt_cd_of (q := (115, .aload_n 0, 1)) mq_200 ci_200 (List.mem_of_getElem? (i := 69) rfl)
theorem cd_200_116 : mt_cd 200 116 = some (.aload_n 0) := mt_cd_of (q := (116, .aload_n 0, 1)) mq_200 ci_200 (List.mem_of_getElem? (i := 70) rfl)
theorem cd_200_117 : mt_cd 200 117 = some (.getfield 89) := mt_cd_of (q := (117, .getfield 89, 3)) mq_200 ci_200 (List.mem_of_getElem? (i := 71) rfl)
theorem cd_200_120 : mt_cd 200 120 = some (.iload_n 3) := mt_cd_of (q := (120, .iload_n 3, 1)) mq_200 ci_200 (List.mem_of_getElem? (i := 72) rfl)
theorem cd_200_121 : mt_cd 200 121 = some (.iaload) := mt_cd_of (q := (121, .iaload, 1)) mq_200 ci_200 (List.mem_of_getElem? (i := 73) rfl)
theorem cd_200_122 : mt_cd 200 122 = some (.invokevirtual 477) := mt_cd_of (q := (122, .invokevirtual 477, 3)) mq_200 ci_200 (List.mem_of_getElem? (i := 74) rfl)
theorem cd_200_125 : mt_cd 200 125 = some (.istore 4) := mt_cd_of (q := (125, .istore 4, 2)) mq_200 ci_200 (List.mem_of_getElem? (i := 75) rfl)
theorem cd_200_127 : mt_cd 200 127 = some (.iload 4) := mt_cd_of (q := (127, .iload 4, 2)) mq_200 ci_200 (List.mem_of_getElem? (i := 76) rfl)
theorem cd_200_129 : mt_cd 200 129 = some (.ifCond .ne 12) := mt_cd_of (q := (129, .ifCond .ne 12, 3)) mq_200 ci_200 (List.mem_of_getElem? (i := 77) rfl)
theorem cd_200_132 : mt_cd 200 132 = some (.aload_n 0) := mt_cd_of (q := (132, .aload_n 0, 1)) mq_200 ci_200 (List.mem_of_getElem? (i := 78) rfl)
theorem cd_200_133 : mt_cd 200 133 = some (.getfield 441) := mt_cd_of (q := (133, .getfield 441, 3)) mq_200 ci_200 (List.mem_of_getElem? (i := 79) rfl)
theorem cd_200_136 : mt_cd 200 136 = some (.ifCond .ne 5) := mt_cd_of (q := (136, .ifCond .ne 5, 3)) mq_200 ci_200 (List.mem_of_getElem? (i := 80) rfl)
theorem cd_200_139 : mt_cd 200 139 = some (.iconst 0) := mt_cd_of (q := (139, .iconst 0, 1)) mq_200 ci_200 (List.mem_of_getElem? (i := 81) rfl)
theorem cd_200_140 : mt_cd 200 140 = some (.ireturn) := mt_cd_of (q := (140, .ireturn, 1)) mq_200 ci_200 (List.mem_of_getElem? (i := 82) rfl)
theorem cd_200_141 : mt_cd 200 141 = some (.aload_n 0) := mt_cd_of (q := (141, .aload_n 0, 1)) mq_200 ci_200 (List.mem_of_getElem? (i := 83) rfl)
theorem cd_200_142 : mt_cd 200 142 = some (.bipush 9) := mt_cd_of (q := (142, .bipush 9, 2)) mq_200 ci_200 (List.mem_of_getElem? (i := 84) rfl)
theorem cd_200_144 : mt_cd 200 144 = some (.iconst 0) := mt_cd_of (q := (144, .iconst 0, 1)) mq_200 ci_200 (List.mem_of_getElem? (i := 85) rfl)
theorem cd_200_145 : mt_cd 200 145 = some (.iconst 0) := mt_cd_of (q := (145, .iconst 0, 1)) mq_200 ci_200 (List.mem_of_getElem? (i := 86) rfl)
theorem cd_200_146 : mt_cd 200 146 = some (.iconst 0) := mt_cd_of (q := (146, .iconst 0, 1)) mq_200 ci_200 (List.mem_of_getElem? (i := 87) rfl)
theorem cd_200_147 : mt_cd 200 147 = some (.lconst 0) := mt_cd_of (q := (147, .lconst 0, 1)) mq_200 ci_200 (List.mem_of_getElem? (i := 88) rfl)
theorem cd_200_148 : mt_cd 200 148 = some (.invokevirtual 548) := mt_cd_of (q := (148, .invokevirtual 548, 3)) mq_200 ci_200 (List.mem_of_getElem? (i := 89) rfl)
theorem cd_200_151 : mt_cd 200 151 = some (.pop) := mt_cd_of (q := (151, .pop, 1)) mq_200 ci_200 (List.mem_of_getElem? (i := 90) rfl)
theorem cd_200_152 : mt_cd 200 152 = some (.aload_n 0) := mt_cd_of (q := (152, .aload_n 0, 1)) mq_200 ci_200 (List.mem_of_getElem? (i := 91) rfl)
theorem cd_200_153 : mt_cd 200 153 = some (.aload_n 1) := mt_cd_of (q := (153, .aload_n 1, 1)) mq_200 ci_200 (List.mem_of_getElem? (i := 92) rfl)
theorem cd_200_154 : mt_cd 200 154 = some (.aload_n 2) := mt_cd_of (q := (154, .aload_n 2, 1)) mq_200 ci_200 (List.mem_of_getElem? (i := 93) rfl)
theorem cd_200_155 : mt_cd 200 155 = some (.iconst 3) := mt_cd_of (q := (155, .iconst 3, 1)) mq_200 ci_200 (List.mem_of_getElem? (i := 94) rfl)
theorem cd_200_156 : mt_cd 200 156 = some (.lconst 0) := mt_cd_of (q := (156, .lconst 0, 1)) mq_200 ci_200 (List.mem_of_getElem? (i := 95) rfl)
theorem cd_200_157 : mt_cd 200 157 = some (.iload_n 3) := mt_cd_of (q := (157, .iload_n 3, 1)) mq_200 ci_200 (List.mem_of_getElem? (i := 96) rfl)
theorem cd_200_158 : mt_cd 200 158 = some (.invokevirtual 586) := mt_cd_of (q := (158, .invokevirtual 586, 3)) mq_200 ci_200 (List.mem_of_getElem? (i := 97) rfl)
theorem cd_200_161 : mt_cd 200 161 = some (.ireturn) := mt_cd_of (q := (161, .ireturn, 1)) mq_200 ci_200 (List.mem_of_getElem? (i := 98) rfl)
theorem b_200_0 {d : Nat} {Q : (Option Value ⊕ Nat) → mi_H → Prop} (n sl : Nat) (f : Nat → mi_C) {l1 : Nat} {l2 : Nat} {l3 : Nat} {l4 : Int32} {o5 : Option Value} {o6 : Option Value} {fs7 : List Value} {fs11 : List Value} (h8 : f l1 = .inr (12, fs7)) (h9 : l1 < n) (h10 : 43 < fs7.length) (h12 : (va_up f l1 (.inr (12, fs7.set 43 (.ref l3)))) l3 = .inr (13, fs11)) (h13 : l3 < n) (h14 : mi_W d 172 0 (mi_en 3 [.ref l3, .ref l2]) [] (n, sl, (va_up f l1 (.inr (12, fs7.set 43 (.ref l3))))) (mi_Kc d 200 7 [some (.ref l1), some (.ref l2), some (.ref l3), some (.int l4), o5, o6] [] Q)) : mi_W (d + 1) 200 0 [some (.ref l1), some (.ref l2), some (.ref l3), some (.int l4), o5, o6] [] (n, sl, f) Q := by
  refine w_aload_n cd_200_0 rfl ?_
  refine w_aload_n cd_200_1 rfl ?_
  refine w_putfield (w := .ref l3) cd_200_2 (show mt_f 12 445 = some (12, 43) by decide +kernel) h8 h9 ⟨h10, rfl, Or.inl (by decide)⟩ ?_
  refine w_aload_n cd_200_5 rfl ?_
  refine w_aload_n cd_200_6 rfl ?_
  exact w_invokevirtual cd_200_7 (show mt_m 12 525 = some (172, 0) by decide +kernel) (rest := []) rfl (as := [.ref l3, .ref l2]) rfl h12 (Or.inl h13) ⟨Nat.le_of_ble_eq_true rfl, Nat.le_of_ble_eq_true rfl, Nat.le_of_ble_eq_true rfl⟩ h14
theorem b_200_10 {d : Nat} {Q : (Option Value ⊕ Nat) → mi_H → Prop} (n sl : Nat) (f : Nat → mi_C) {l1 : Nat} {l2 : Nat} {l3 : Nat} {l4 : Int32} {o5 : Option Value} {o6 : Option Value} {fs7 : List Value} {x10 : Int64} {fs12 : List Value} {fs16 : List Value} {x19 : Int64} {fs21 : List Value} {fs25 : List Value} {fs30 : List Value} {fs34 : List Value} {x37 : Nat} (m39 i39 : Nat) (g39 : Nat → Int32) (h8 : f l2 = .inr (13, fs7)) (h9 : l2 < n) (h11 : fs7[1]? = some (.long x10)) (h13 : f l1 = .inr (12, fs12)) (h14 : l1 < n) (h15 : 44 < fs12.length) (h17 : (va_up f l1 (.inr (12, fs12.set 44 (.long x10)))) l2 = .inr (13, fs16)) (h18 : l2 < n) (h20 : fs16[1]? = some (.long x19)) (h22 : (va_up f l1 (.inr (12, fs12.set 44 (.long x10)))) l1 = .inr (12, fs21)) (h23 : l1 < n) (h24 : 45 < fs21.length) (h26 : (va_up (va_up f l1 (.inr (12, fs12.set 44 (.long x10)))) l1 (.inr (12, fs21.set 45 (.long x19)))) l1 = .inr (12, fs25)) (h27 : l1 < n) (h28 : 46 < fs25.length) (h29 : mi_fk .boolean (.int 0) = true) (h31 : (va_up (va_up (va_up f l1 (.inr (12, fs12.set 44 (.long x10)))) l1 (.inr (12, fs21.set 45 (.long x19)))) l1 (.inr (12, fs25.set 46 (.int 0)))) l1 = .inr (12, fs30)) (h32 : l1 < n) (h33 : 59 < fs30.length) (h35 : (va_up (va_up (va_up (va_up f l1 (.inr (12, fs12.set 44 (.long x10)))) l1 (.inr (12, fs21.set 45 (.long x19)))) l1 (.inr (12, fs25.set 46 (.int 0)))) l1 (.inr (12, fs30.set 59 (.int 0)))) l1 = .inr (12, fs34)) (h36 : l1 < n) (h38 : fs34[12]? = some (.ref x37)) (h40 : (va_up (va_up (va_up (va_up f l1 (.inr (12, fs12.set 44 (.long x10)))) l1 (.inr (12, fs21.set 45 (.long x19)))) l1 (.inr (12, fs25.set 46 (.int 0)))) l1 (.inr (12, fs30.set 59 (.int 0)))) x37 = .inl (0, m39, .inl g39)) (h41 : x37 < n ∨ x37 = mi_SC) (h42 : mi_ix l4 m39 i39) (h43 : ¬ (g39 i39) = 7 → mi_W d 200 115 [some (.ref l1), some (.ref l2), some (.ref l3), some (.int l4), o5, o6] [] (n, sl, (va_up (va_up (va_up (va_up f l1 (.inr (12, fs12.set 44 (.long x10)))) l1 (.inr (12, fs21.set 45 (.long x19)))) l1 (.inr (12, fs25.set 46 (.int 0)))) l1 (.inr (12, fs30.set 59 (.int 0))))) Q) (h44 : ¬ (¬ (g39 i39) = 7) → mi_W d 200 47 [some (.ref l1), some (.ref l2), some (.ref l3), some (.int l4), o5, o6] [] (n, sl, (va_up (va_up (va_up (va_up f l1 (.inr (12, fs12.set 44 (.long x10)))) l1 (.inr (12, fs21.set 45 (.long x19)))) l1 (.inr (12, fs25.set 46 (.int 0)))) l1 (.inr (12, fs30.set 59 (.int 0))))) Q) : mi_W d 200 10 [some (.ref l1), some (.ref l2), some (.ref l3), some (.int l4), o5, o6] [] (n, sl, f) Q := by
  refine w_aload_n cd_200_10 rfl ?_
  refine w_aload_n cd_200_11 rfl ?_
  refine w_getfield cd_200_12 (show mt_f 12 516 = some (13, 1) by decide +kernel) h8 h9 h11 ?_
  refine w_putfield (w := .long x10) cd_200_15 (show mt_f 12 471 = some (12, 44) by decide +kernel) h13 h14 ⟨h15, rfl, Or.inl (by decide)⟩ ?_
  refine w_aload_n cd_200_18 rfl ?_
  refine w_aload_n cd_200_19 rfl ?_
  refine w_getfield cd_200_20 (show mt_f 12 516 = some (13, 1) by decide +kernel) h17 h18 h20 ?_
  refine w_putfield (w := .long x19) cd_200_23 (show mt_f 12 474 = some (12, 45) by decide +kernel) h22 h23 ⟨h24, rfl, Or.inl (by decide)⟩ ?_
  refine w_aload_n cd_200_26 rfl ?_
  refine w_iconst (v := 0) cd_200_27 (by decide) ?_
  refine w_putfield (w := .int 0) cd_200_28 (show mt_f 12 441 = some (12, 46) by decide +kernel) h26 h27 ⟨h28, h29, Or.inl (by decide)⟩ ?_
  refine w_aload_n cd_200_31 rfl ?_
  refine w_iconst (v := 0) cd_200_32 (by decide) ?_
  refine w_putfield (w := .int 0) cd_200_33 (show mt_f 12 258 = some (12, 59) by decide +kernel) h31 h32 ⟨h33, rfl, Or.inl (by decide)⟩ ?_
  refine w_aload_n cd_200_36 rfl ?_
  refine w_getfield cd_200_37 (show mt_f 12 77 = some (12, 12) by decide +kernel) h35 h36 h38 ?_
  refine w_iload_n cd_200_40 rfl ?_
  refine w_iaload cd_200_41 h40 h41 h42 ?_
  refine w_bipush (v := 7) cd_200_42 (by decide) ?_
  exact w_if_icmpne cd_200_44 (by decide) h43 h44
theorem b_200_47 {d : Nat} {Q : (Option Value ⊕ Nat) → mi_H → Prop} (n sl : Nat) (f : Nat → mi_C) {l1 : Nat} {l2 : Nat} {l3 : Nat} {l4 : Int32} {o5 : Option Value} {o6 : Option Value} {fs7 : List Value} {x10 : Nat} (m12 i12 : Nat) (g12 : Nat → Int32) {fs16 : List Value} (h8 : f l1 = .inr (12, fs7)) (h9 : l1 < n) (h11 : fs7[16]? = some (.ref x10)) (h13 : f x10 = .inl (0, m12, .inl g12)) (h14 : x10 < n ∨ x10 = mi_SC) (h15 : mi_ix l4 m12 i12) (h17 : f l1 = .inr (12, fs16)) (h18 : l1 < n) (h19 : mi_W d 176 0 (mi_en 2 [.ref l1, .int (g12 i12)]) [] (n, sl, f) (mi_Kc d 200 54 [some (.ref l1), some (.ref l2), some (.ref l3), some (.int l4), o5, o6] [] Q)) : mi_W (d + 1) 200 47 [some (.ref l1), some (.ref l2), some (.ref l3), some (.int l4), o5, o6] [] (n, sl, f) Q := by
  refine w_aload_n cd_200_47 rfl ?_
  refine w_aload_n cd_200_48 rfl ?_
  refine w_getfield cd_200_49 (show mt_f 12 89 = some (12, 16) by decide +kernel) h8 h9 h11 ?_
  refine w_iload_n cd_200_52 rfl ?_
  refine w_iaload cd_200_53 h13 h14 h15 ?_
  exact w_invokevirtual cd_200_54 (show mt_m 12 451 = some (176, 0) by decide +kernel) (rest := []) rfl (as := [.ref l1, .int (g12 i12)]) rfl h17 (Or.inl h18) ⟨Nat.le_of_ble_eq_true rfl, Nat.le_of_ble_eq_true rfl, Nat.le_of_ble_eq_true rfl⟩ h19
theorem b_200_57 {d : Nat} {Q : (Option Value ⊕ Nat) → mi_H → Prop} (n sl : Nat) (f : Nat → mi_C) {l1 : Nat} {l2 : Nat} {l3 : Nat} {l4 : Int32} {o5 : Option Value} {o6 : Option Value} {s7 : Int64} {fs8 : List Value} {x11 : Int32} (h9 : f l1 = .inr (12, fs8)) (h10 : l1 < n) (h12 : fs8[46]? = some (.int x11)) (h13 : x11 = (0 : Int32) → mi_W d 200 77 [some (.ref l1), some (.ref l2), some (.ref l3), some (.int l4), some (.long s7), none] [] (n, sl, f) Q) (h14 : ¬ (x11 = (0 : Int32)) → mi_W d 200 66 [some (.ref l1), some (.ref l2), some (.ref l3), some (.int l4), some (.long s7), none] [] (n, sl, f) Q) : mi_W d 200 57 [some (.ref l1), some (.ref l2), some (.ref l3), some (.int l4), o5, o6] [.long s7] (n, sl, f) Q := by
  refine w_lstore (ls' := [some (.ref l1), some (.ref l2), some (.ref l3), some (.int l4), some (.long s7), none]) cd_200_57 (Nat.le_of_ble_eq_true rfl) rfl ?_
  refine w_aload_n cd_200_59 rfl ?_
  refine w_getfield cd_200_60 (show mt_f 12 441 = some (12, 46) by decide +kernel) h9 h10 h12 ?_
  exact w_ifeq cd_200_63 (by decide) h13 h14
theorem b_200_66 {d : Nat} {Q : (Option Value ⊕ Nat) → mi_H → Prop} (n sl : Nat) (f : Nat → mi_C) {l1 : Nat} {l2 : Nat} {l3 : Nat} {l4 : Int32} {l5 : Int64} {fs6 : List Value} (h7 : f l1 = .inr (12, fs6)) (h8 : l1 < n) (h9 : mi_W d 197 0 (mi_en 8 [.ref l1, .ref l3, .int 6, .int 1, .long 0, .int l4]) [] (n, sl, f) (mi_Kc d 200 73 [some (.ref l1), some (.ref l2), some (.ref l3), some (.int l4), some (.long l5), none] [] Q)) : mi_W (d + 1) 200 66 [some (.ref l1), some (.ref l2), some (.ref l3), some (.int l4), some (.long l5), none] [] (n, sl, f) Q := by
  refine w_aload_n cd_200_66 rfl ?_
  refine w_aload_n cd_200_67 rfl ?_
  refine w_bipush (v := 6) cd_200_68 (by decide) ?_
  refine w_iconst (v := 1) cd_200_70 (by decide) ?_
  refine w_lconst (lv := 0) cd_200_71 (by decide) ?_
  refine w_iload_n cd_200_72 rfl ?_
  exact w_invokevirtual cd_200_73 (show mt_m 12 575 = some (197, 0) by decide +kernel) (rest := []) rfl (as := [.ref l1, .ref l3, .int 6, .int 1, .long 0, .int l4]) rfl h7 (Or.inl h8) ⟨Nat.le_of_ble_eq_true rfl, Nat.le_of_ble_eq_true rfl, Nat.le_of_ble_eq_true rfl⟩ h9
theorem b_200_76 {d : Nat} {Q : (Option Value ⊕ Nat) → mi_H → Prop} (n sl : Nat) (f : Nat → mi_C) {l1 : Nat} {l2 : Nat} {l3 : Nat} {l4 : Int32} {l5 : Int64} {s6 : Int32} (h7 : Q (.inl (some (.int s6))) (n, sl, f)) : mi_W d 200 76 [some (.ref l1), some (.ref l2), some (.ref l3), some (.int l4), some (.long l5), none] [.int s6] (n, sl, f) Q := by
  exact w_ireturn_i cd_200_76 (by decide +kernel) h7
theorem b_200_77 {d : Nat} {Q : (Option Value ⊕ Nat) → mi_H → Prop} (n sl : Nat) (f : Nat → mi_C) {l1 : Nat} {l2 : Nat} {l3 : Nat} {l4 : Int32} {l5 : Int64} {fs6 : List Value} {x9 : Nat} (m11 i11 : Nat) (g11 : Nat → Int32) {fs15 : List Value} {x18 : Nat} (m20 i20 : Nat) (g20 : Nat → Int32) {fs24 : List Value} {x27 : Nat} (m29 i29 : Nat) (g29 : Nat → Int32) {fs33 : List Value} (h7 : f l1 = .inr (12, fs6)) (h8 : l1 < n) (h10 : fs6[13]? = some (.ref x9)) (h12 : f x9 = .inl (0, m11, .inl g11)) (h13 : x9 < n ∨ x9 = mi_SC) (h14 : mi_ix l4 m11 i11) (h16 : f l1 = .inr (12, fs15)) (h17 : l1 < n) (h19 : fs15[14]? = some (.ref x18)) (h21 : f x18 = .inl (0, m20, .inl g20)) (h22 : x18 < n ∨ x18 = mi_SC) (h23 : mi_ix l4 m20 i20) (h25 : f l1 = .inr (12, fs24)) (h26 : l1 < n) (h28 : fs24[15]? = some (.ref x27)) (h30 : f x27 = .inl (0, m29, .inl g29)) (h31 : x27 < n ∨ x27 = mi_SC) (h32 : mi_ix l4 m29 i29) (h34 : f l1 = .inr (12, fs33)) (h35 : l1 < n) (h36 : mi_W d 187 0 (mi_en 7 [.ref l1, .int 7, .int (g11 i11), .int (g20 i20), .int (g29 i29), .long l5]) [] (n, sl, f) (mi_Kc d 200 100 [some (.ref l1), some (.ref l2), some (.ref l3), some (.int l4), some (.long l5), none] [] Q)) : mi_W (d + 1) 200 77 [some (.ref l1), some (.ref l2), some (.ref l3), some (.int l4), some (.long l5), none] [] (n, sl, f) Q := by
  refine w_aload_n cd_200_77 rfl ?_
  refine w_bipush (v := 7) cd_200_78 (by decide) ?_
  refine w_aload_n cd_200_80 rfl ?_
  refine w_getfield cd_200_81 (show mt_f 12 80 = some (12, 13) by decide +kernel) h7 h8 h10 ?_
  refine w_iload_n cd_200_84 rfl ?_
  refine w_iaload cd_200_85 h12 h13 h14 ?_
  refine w_aload_n cd_200_86 rfl ?_
  refine w_getfield cd_200_87 (show mt_f 12 83 = some (12, 14) by decide +kernel) h16 h17 h19 ?_
  refine w_iload_n cd_200_90 rfl ?_
  refine w_iaload cd_200_91 h21 h22 h23 ?_
  refine w_aload_n cd_200_92 rfl ?_
  refine w_getfield cd_200_93 (show mt_f 12 86 = some (12, 15) by decide +kernel) h25 h26 h28 ?_
  refine w_iload_n cd_200_96 rfl ?_
  refine w_iaload cd_200_97 h30 h31 h32 ?_
  refine w_lload cd_200_98 rfl ?_
  exact w_invokevirtual cd_200_100 (show mt_m 12 548 = some (187, 0) by decide +kernel) (rest := []) rfl (as := [.ref l1, .int 7, .int (g11 i11), .int (g20 i20), .int (g29 i29), .long l5]) rfl h34 (Or.inl h35) ⟨Nat.le_of_ble_eq_true rfl, Nat.le_of_ble_eq_true rfl, Nat.le_of_ble_eq_true rfl⟩ h36
theorem b_200_103 {d : Nat} {Q : (Option Value ⊕ Nat) → mi_H → Prop} (n sl : Nat) (f : Nat → mi_C) {l1 : Nat} {l2 : Nat} {l3 : Nat} {l4 : Int32} {l5 : Int64} {s6 : Int32} {fs7 : List Value} (h8 : f l1 = .inr (12, fs7)) (h9 : l1 < n) (h10 : mi_W d 199 0 (mi_en 8 [.ref l1, .ref l2, .ref l3, .int 1, .long l5, .int l4]) [] (n, sl, f) (mi_Kc d 200 111 [some (.ref l1), some (.ref l2), some (.ref l3), some (.int l4), some (.long l5), none] [] Q)) : mi_W (d + 1) 200 103 [some (.ref l1), some (.ref l2), some (.ref l3), some (.int l4), some (.long l5), none] [.int s6] (n, sl, f) Q := by
  refine w_pop_i cd_200_103 ?_
  refine w_aload_n cd_200_104 rfl ?_
  refine w_aload_n cd_200_105 rfl ?_
  refine w_aload_n cd_200_106 rfl ?_
  refine w_iconst (v := 1) cd_200_107 (by decide) ?_
  refine w_lload cd_200_108 rfl ?_
  refine w_iload_n cd_200_110 rfl ?_
  exact w_invokevirtual cd_200_111 (show mt_m 12 586 = some (199, 0) by decide +kernel) (rest := []) rfl (as := [.ref l1, .ref l2, .ref l3, .int 1, .long l5, .int l4]) rfl h8 (Or.inl h9) ⟨Nat.le_of_ble_eq_true rfl, Nat.le_of_ble_eq_true rfl, Nat.le_of_ble_eq_true rfl⟩ h10
theorem b_200_114 {d : Nat} {Q : (Option Value ⊕ Nat) → mi_H → Prop} (n sl : Nat) (f : Nat → mi_C) {l1 : Nat} {l2 : Nat} {l3 : Nat} {l4 : Int32} {l5 : Int64} {s6 : Int32} (h7 : Q (.inl (some (.int s6))) (n, sl, f)) : mi_W d 200 114 [some (.ref l1), some (.ref l2), some (.ref l3), some (.int l4), some (.long l5), none] [.int s6] (n, sl, f) Q := by
  exact w_ireturn_i cd_200_114 (by decide +kernel) h7
theorem b_200_115 {d : Nat} {Q : (Option Value ⊕ Nat) → mi_H → Prop} (n sl : Nat) (f : Nat → mi_C) {l1 : Nat} {l2 : Nat} {l3 : Nat} {l4 : Int32} {o5 : Option Value} {o6 : Option Value} {fs7 : List Value} {x10 : Nat} (m12 i12 : Nat) (g12 : Nat → Int32) {fs16 : List Value} (h8 : f l1 = .inr (12, fs7)) (h9 : l1 < n) (h11 : fs7[16]? = some (.ref x10)) (h13 : f x10 = .inl (0, m12, .inl g12)) (h14 : x10 < n ∨ x10 = mi_SC) (h15 : mi_ix l4 m12 i12) (h17 : f l1 = .inr (12, fs16)) (h18 : l1 < n) (h19 : mi_W d 178 0 (mi_en 6 [.ref l1, .int (g12 i12)]) [] (n, sl, f) (mi_Kc d 200 122 [some (.ref l1), some (.ref l2), some (.ref l3), some (.int l4), o5, o6] [] Q)) : mi_W (d + 1) 200 115 [some (.ref l1), some (.ref l2), some (.ref l3), some (.int l4), o5, o6] [] (n, sl, f) Q := by
  refine w_aload_n cd_200_115 rfl ?_
  refine w_aload_n cd_200_116 rfl ?_
  refine w_getfield cd_200_117 (show mt_f 12 89 = some (12, 16) by decide +kernel) h8 h9 h11 ?_
  refine w_iload_n cd_200_120 rfl ?_
  refine w_iaload cd_200_121 h13 h14 h15 ?_
  exact w_invokevirtual cd_200_122 (show mt_m 12 477 = some (178, 0) by decide +kernel) (rest := []) rfl (as := [.ref l1, .int (g12 i12)]) rfl h17 (Or.inl h18) ⟨Nat.le_of_ble_eq_true rfl, Nat.le_of_ble_eq_true rfl, Nat.le_of_ble_eq_true rfl⟩ h19
theorem b_200_125 {d : Nat} {Q : (Option Value ⊕ Nat) → mi_H → Prop} (n sl : Nat) (f : Nat → mi_C) {l1 : Nat} {l2 : Nat} {l3 : Nat} {l4 : Int32} {o5 : Option Value} {o6 : Option Value} {s7 : Int32} (h8 : ¬ s7 = (0 : Int32) → mi_W d 200 141 [some (.ref l1), some (.ref l2), some (.ref l3), some (.int l4), some (.int s7), o6] [] (n, sl, f) Q) (h9 : ¬ (¬ s7 = (0 : Int32)) → mi_W d 200 132 [some (.ref l1), some (.ref l2), some (.ref l3), some (.int l4), some (.int s7), o6] [] (n, sl, f) Q) : mi_W d 200 125 [some (.ref l1), some (.ref l2), some (.ref l3), some (.int l4), o5, o6] [.int s7] (n, sl, f) Q := by
  refine w_istore (ls' := [some (.ref l1), some (.ref l2), some (.ref l3), some (.int l4), some (.int s7), o6]) cd_200_125 (Nat.le_of_ble_eq_true rfl) rfl ?_
  refine w_iload cd_200_127 rfl ?_
  exact w_ifne cd_200_129 (by decide) h8 h9
theorem b_200_132 {d : Nat} {Q : (Option Value ⊕ Nat) → mi_H → Prop} (n sl : Nat) (f : Nat → mi_C) {l1 : Nat} {l2 : Nat} {l3 : Nat} {l4 : Int32} {l5 : Int32} {o6 : Option Value} {fs7 : List Value} {x10 : Int32} (h8 : f l1 = .inr (12, fs7)) (h9 : l1 < n) (h11 : fs7[46]? = some (.int x10)) (h12 : ¬ x10 = (0 : Int32) → mi_W d 200 141 [some (.ref l1), some (.ref l2), some (.ref l3), some (.int l4), some (.int l5), o6] [] (n, sl, f) Q) (h13 : ¬ (¬ x10 = (0 : Int32)) → mi_W d 200 139 [some (.ref l1), some (.ref l2), some (.ref l3), some (.int l4), some (.int l5), o6] [] (n, sl, f) Q) : mi_W d 200 132 [some (.ref l1), some (.ref l2), some (.ref l3), some (.int l4), some (.int l5), o6] [] (n, sl, f) Q := by
  refine w_aload_n cd_200_132 rfl ?_
  refine w_getfield cd_200_133 (show mt_f 12 441 = some (12, 46) by decide +kernel) h8 h9 h11 ?_
  exact w_ifne cd_200_136 (by decide) h12 h13
theorem b_200_139 {d : Nat} {Q : (Option Value ⊕ Nat) → mi_H → Prop} (n sl : Nat) (f : Nat → mi_C) {l1 : Nat} {l2 : Nat} {l3 : Nat} {l4 : Int32} {l5 : Int32} {o6 : Option Value} (h7 : Q (.inl (some (.int 0))) (n, sl, f)) : mi_W d 200 139 [some (.ref l1), some (.ref l2), some (.ref l3), some (.int l4), some (.int l5), o6] [] (n, sl, f) Q := by
  refine w_iconst (v := 0) cd_200_139 (by decide) ?_
  exact w_ireturn_i cd_200_140 (by decide +kernel) h7
theorem b_200_141 {d : Nat} {Q : (Option Value ⊕ Nat) → mi_H → Prop} (n sl : Nat) (f : Nat → mi_C) {l1 : Nat} {l2 : Nat} {l3 : Nat} {l4 : Int32} {l5 : Int32} {o6 : Option Value} {fs7 : List Value} (h8 : f l1 = .inr (12, fs7)) (h9 : l1 < n) (h10 : mi_W d 187 0 (mi_en 7 [.ref l1, .int 9, .int 0, .int 0, .int 0, .long 0]) [] (n, sl, f) (mi_Kc d 200 148 [some (.ref l1), some (.ref l2), some (.ref l3), some (.int l4), some (.int l5), o6] [] Q)) : mi_W (d + 1) 200 141 [some (.ref l1), some (.ref l2), some (.ref l3), some (.int l4), some (.int l5), o6] [] (n, sl, f) Q := by
  refine w_aload_n cd_200_141 rfl ?_
  refine w_bipush (v := 9) cd_200_142 (by decide) ?_
  refine w_iconst (v := 0) cd_200_144 (by decide) ?_
  refine w_iconst (v := 0) cd_200_145 (by decide) ?_
  refine w_iconst (v := 0) cd_200_146 (by decide) ?_
  refine w_lconst (lv := 0) cd_200_147 (by decide) ?_
  exact w_invokevirtual cd_200_148 (show mt_m 12 548 = some (187, 0) by decide +kernel) (rest := []) rfl (as := [.ref l1, .int 9, .int 0, .int 0, .int 0, .long 0]) rfl h8 (Or.inl h9) ⟨Nat.le_of_ble_eq_true rfl, Nat.le_of_ble_eq_true rfl, Nat.le_of_ble_eq_true rfl⟩ h10
theorem b_200_151 {d : Nat} {Q : (Option Value ⊕ Nat) → mi_H → Prop} (n sl : Nat) (f : Nat → mi_C) {l1 : Nat} {l2 : Nat} {l3 : Nat} {l4 : Int32} {l5 : Int32} {o6 : Option Value} {s7 : Int32} {fs8 : List Value} (h9 : f l1 = .inr (12, fs8)) (h10 : l1 < n) (h11 : mi_W d 199 0 (mi_en 8 [.ref l1, .ref l2, .ref l3, .int 3, .long 0, .int l4]) [] (n, sl, f) (mi_Kc d 200 158 [some (.ref l1), some (.ref l2), some (.ref l3), some (.int l4), some (.int l5), o6] [] Q)) : mi_W (d + 1) 200 151 [some (.ref l1), some (.ref l2), some (.ref l3), some (.int l4), some (.int l5), o6] [.int s7] (n, sl, f) Q := by
  refine w_pop_i cd_200_151 ?_
  refine w_aload_n cd_200_152 rfl ?_
  refine w_aload_n cd_200_153 rfl ?_
  refine w_aload_n cd_200_154 rfl ?_
  refine w_iconst (v := 3) cd_200_155 (by decide) ?_
  refine w_lconst (lv := 0) cd_200_156 (by decide) ?_
  refine w_iload_n cd_200_157 rfl ?_
  exact w_invokevirtual cd_200_158 (show mt_m 12 586 = some (199, 0) by decide +kernel) (rest := []) rfl (as := [.ref l1, .ref l2, .ref l3, .int 3, .long 0, .int l4]) rfl h9 (Or.inl h10) ⟨Nat.le_of_ble_eq_true rfl, Nat.le_of_ble_eq_true rfl, Nat.le_of_ble_eq_true rfl⟩ h11
theorem b_200_161 {d : Nat} {Q : (Option Value ⊕ Nat) → mi_H → Prop} (n sl : Nat) (f : Nat → mi_C) {l1 : Nat} {l2 : Nat} {l3 : Nat} {l4 : Int32} {l5 : Int32} {o6 : Option Value} {s7 : Int32} (h8 : Q (.inl (some (.int s7))) (n, sl, f)) : mi_W d 200 161 [some (.ref l1), some (.ref l2), some (.ref l3), some (.int l4), some (.int l5), o6] [.int s7] (n, sl, f) Q := by
  exact w_ireturn_i cd_200_161 (by decide +kernel) h8
/-! MarloweHostModel.step(II)J -/
set_option maxRecDepth 100000 in
theorem mq_201 : mt_q 201 = my_201 := rfl
set_option maxRecDepth 100000 in
theorem ci_201 : mt_inc 0 my_201.cd = true := by decide +kernel
theorem cd_201_0 : mt_cd 201 0 = some (.aload_n 0) := mt_cd_of (q := (0, .aload_n 0, 1)) mq_201 ci_201 (List.mem_of_getElem? (i := 0) rfl)
theorem cd_201_1 : mt_cd 201 1 = some (.iconst 0) := mt_cd_of (q := (1, .iconst 0, 1)) mq_201 ci_201 (List.mem_of_getElem? (i := 1) rfl)
theorem cd_201_2 : mt_cd 201 2 = some (.putfield 248) := mt_cd_of (q := (2, .putfield 248, 3)) mq_201 ci_201 (List.mem_of_getElem? (i := 2) rfl)
theorem cd_201_5 : mt_cd 201 5 = some (.aload_n 0) := mt_cd_of (q := (5, .aload_n 0, 1)) mq_201 ci_201 (List.mem_of_getElem? (i := 3) rfl)
theorem cd_201_6 : mt_cd 201 6 = some (.iload_n 2) := mt_cd_of (q := (6, .iload_n 2, 1)) mq_201 ci_201 (List.mem_of_getElem? (i := 4) rfl)
theorem cd_201_7 : mt_cd 201 7 = some (.i2l) := mt_cd_of (q := (7, .i2l, 1)) mq_201 ci_201 (List.mem_of_getElem? (i := 5) rfl)
theorem cd_201_8 : mt_cd 201 8 = some (.lconst 0) := mt_cd_of (q := (8, .lconst 0, 1)) mq_201 ci_201 (List.mem_of_getElem? (i := 6) rfl)
theorem cd_201_9 : mt_cd 201 9 = some (.ldc2_w 590) := mt_cd_of (q := (9, .ldc2_w 590, 3)) mq_201 ci_201 (List.mem_of_getElem? (i := 7) rfl)
theorem cd_201_12 : mt_cd 201 12 = some (.invokestatic 268) := mt_cd_of (q := (12, .invokestatic 268, 3)) mq_201 ci_201 (List.mem_of_getElem? (i := 8) rfl)
theorem cd_201_15 : mt_cd 201 15 = some (.ifCond .ne 7) := mt_cd_of (q := (15, .ifCond .ne 7, 3)) mq_201 ci_201 (List.mem_of_getElem? (i := 9) rfl)
theorem cd_201_18 : mt_cd 201 18 = some (.iconst 1) := mt_cd_of (q := (18, .iconst 1, 1)) mq_201 ci_201 (List.mem_of_getElem? (i := 10) rfl)
theorem cd_201_19 : mt_cd 201 19 = some (.goto 4) := mt_cd_of (q := (19, .goto 4, 3)) mq_201 ci_201 (List.mem_of_getElem? (i := 11) rfl)
theorem cd_201_22 : mt_cd 201 22 = some (.iconst 0) := mt_cd_of (q := (22, .iconst 0, 1)) mq_201 ci_201 (List.mem_of_getElem? (i := 12) rfl)
theorem cd_201_23 : mt_cd 201 23 = some (.iconst 1) := mt_cd_of (q := (23, .iconst 1, 1)) mq_201 ci_201 (List.mem_of_getElem? (i := 13) rfl)
theorem cd_201_24 : mt_cd 201 24 = some (.invokevirtual 254) := mt_cd_of (q := (24, .invokevirtual 254, 3)) mq_201 ci_201 (List.mem_of_getElem? (i := 14) rfl)
theorem cd_201_27 : mt_cd 201 27 = some (.ifCond .ne 32) := mt_cd_of (q := (27, .ifCond .ne 32, 3)) mq_201 ci_201 (List.mem_of_getElem? (i := 15) rfl)
theorem cd_201_30 : mt_cd 201 30 = some (.aload_n 0) := mt_cd_of (q := (30, .aload_n 0, 1)) mq_201 ci_201 (List.mem_of_getElem? (i := 16) rfl)
theorem cd_201_31 : mt_cd 201 31 = some (.iload_n 1) := mt_cd_of (q := (31, .iload_n 1, 1)) mq_201 ci_201 (List.mem_of_getElem? (i := 17) rfl)
theorem cd_201_32 : mt_cd 201 32 = some (.i2l) := mt_cd_of (q := (32, .i2l, 1)) mq_201 ci_201 (List.mem_of_getElem? (i := 18) rfl)
theorem cd_201_33 : mt_cd 201 33 = some (.lconst 0) := mt_cd_of (q := (33, .lconst 0, 1)) mq_201 ci_201 (List.mem_of_getElem? (i := 19) rfl)
theorem cd_201_34 : mt_cd 201 34 = some (.aload_n 0) := mt_cd_of (q := (34, .aload_n 0, 1)) mq_201 ci_201 (List.mem_of_getElem? (i := 20) rfl)
theorem cd_201_35 : mt_cd 201 35 = some (.getfield 565) := mt_cd_of (q := (35, .getfield 565, 3)) mq_201 ci_201 (List.mem_of_getElem? (i := 21) rfl)
theorem cd_201_38 : mt_cd 201 38 = some (.iconst 1) := mt_cd_of (q := (38, .iconst 1, 1)) mq_201 ci_201 (List.mem_of_getElem? (i := 22) rfl)
theorem cd_201_39 : mt_cd 201 39 = some (.isub) := mt_cd_of (q := (39, .isub, 1)) mq_201 ci_201 (List.mem_of_getElem? (i := 23) rfl)
theorem cd_201_40 : mt_cd 201 40 = some (.i2l) := mt_cd_of (q := (40, .i2l, 1)) mq_201 ci_201 (List.mem_of_getElem? (i := 24) rfl)
theorem cd_201_41 : mt_cd 201 41 = some (.invokestatic 268) := mt_cd_of (q := (41, .invokestatic 268, 3)) mq_201 ci_201 (List.mem_of_getElem? (i := 25) rfl)
theorem cd_201_44 : mt_cd 201 44 = some (.ifCond .ne 7) := mt_cd_of (q := (44, .ifCond .ne 7, 3)) mq_201 ci_201 (List.mem_of_getElem? (i := 26) rfl)
theorem cd_201_47 : mt_cd 201 47 = some (.iconst 1) := mt_cd_of (q := (47, .iconst 1, 1)) mq_201 ci_201 (List.mem_of_getElem? (i := 27) rfl)
theorem cd_201_48 : mt_cd 201 48 = some (.goto 4) := mt_cd_of (q := (48, .goto 4, 3)) mq_201 ci_201 (List.mem_of_getElem? (i := 28) rfl)
theorem cd_201_51 : mt_cd 201 51 = some (.iconst 0) := mt_cd_of (q := (51, .iconst 0, 1)) mq_201 ci_201 (List.mem_of_getElem? (i := 29) rfl)
theorem cd_201_52 : mt_cd 201 52 = some (.iconst 2) := mt_cd_of (q := (52, .iconst 2, 1)) mq_201 ci_201 (List.mem_of_getElem? (i := 30) rfl)
theorem cd_201_53 : mt_cd 201 53 = some (.invokevirtual 254) := mt_cd_of (q := (53, .invokevirtual 254, 3)) mq_201 ci_201 (List.mem_of_getElem? (i := 31) rfl)
theorem cd_201_56 : mt_cd 201 56 = some (.ifCond .eq 5) := mt_cd_of (q := (56, .ifCond .eq 5, 3)) mq_201 ci_201 (List.mem_of_getElem? (i := 32) rfl)
theorem cd_201_59 : mt_cd 201 59 = some (.lconst 0) := mt_cd_of (q := (59, .lconst 0, 1)) mq_201 ci_201 (List.mem_of_getElem? (i := 33) rfl)
theorem cd_201_60 : mt_cd 201 60 = some (.lreturn) := mt_cd_of (q := (60, .lreturn, 1)) mq_201 ci_201 (List.mem_of_getElem? (i := 34) rfl)
theorem cd_201_61 : mt_cd 201 61 = some (.iload_n 2) := mt_cd_of (q := (61, .iload_n 2, 1)) mq_201 ci_201 (List.mem_of_getElem? (i := 35) rfl)
theorem cd_201_62 : mt_cd 201 62 = some (.ifCond .ne 13) := mt_cd_of (q := (62, .ifCond .ne 13, 3)) mq_201 ci_201 (List.mem_of_getElem? (i := 36) rfl)
theorem cd_201_65 : mt_cd 201 65 = some (.aload_n 0) := mt_cd_of (q := (65, .aload_n 0, 1)) mq_201 ci_201 (List.mem_of_getElem? (i := 37) rfl)
theorem cd_201_66 : mt_cd 201 66 = some (.getfield 217) := mt_cd_of (q := (66, .getfield 217, 3)) mq_201 ci_201 (List.mem_of_getElem? (i := 38) rfl)
theorem cd_201_69 : mt_cd 201 69 = some (.iload_n 1) := mt_cd_of (q := (69, .iload_n 1, 1)) mq_201 ci_201 (List.mem_of_getElem? (i := 39) rfl)
theorem cd_201_70 : mt_cd 201 70 = some (.iaload) := mt_cd_of (q := (70, .iaload, 1)) mq_201 ci_201 (List.mem_of_getElem? (i := 40) rfl)
theorem cd_201_71 : mt_cd 201 71 = some (.i2l) := mt_cd_of (q := (71, .i2l, 1)) mq_201 ci_201 (List.mem_of_getElem? (i := 41) rfl)
theorem cd_201_72 : mt_cd 201 72 = some (.goto 24) := mt_cd_of (q := (72, .goto 24, 3)) mq_201 ci_201 (List.mem_of_getElem? (i := 42) rfl)
theorem cd_201_75 : mt_cd 201 75 = some (.iload_n 2) := mt_cd_of (q := (75, .iload_n 2, 1)) mq_201 ci_201 (List.mem_of_getElem? (i := 43) rfl)
theorem cd_201_76 : mt_cd 201 76 = some (.iconst 1) := mt_cd_of (q := (76, .iconst 1, 1)) mq_201 ci_201 (List.mem_of_getElem? (i := 44) rfl)
theorem cd_201_77 : mt_cd 201 77 = some (.if_icmp .ne 12) := mt_cd_of (q := (77, .if_icmp .ne 12, 3)) mq_201 ci_201 (List.mem_of_getElem? (i := 45) rfl)
theorem cd_201_80 : mt_cd 201 80 = some (.aload_n 0) := mt_cd_of (q := (80, .aload_n 0, 1)) mq_201 ci_201 (List.mem_of_getElem? (i := 46) rfl)
theorem cd_201_81 : mt_cd 201 81 = some (.getfield 226) := mt_cd_of (q := (81, .getfield 226, 3)) mq_201 ci_201 (List.mem_of_getElem? (i := 47) rfl)
theorem cd_201_84 : mt_cd 201 84 = some (.iload_n 1) := mt_cd_of (q := (84, .iload_n 1, 1)) mq_201 ci_201 (List.mem_of_getElem? (i := 48) rfl)
theorem cd_201_85 : mt_cd 201 85 = some (.laload) := mt_cd_of (q := (85, .laload, 1)) mq_201 ci_201 (List.mem_of_getElem? (i := 49) rfl)
theorem cd_201_86 : mt_cd 201 86 = some (.goto 10) := mt_cd_of (q := (86, .goto 10, 3)) mq_201 ci_201 (List.mem_of_getElem? (i := 50) rfl)
theorem cd_201_89 : mt_cd 201 89 = some (.aload_n 0) := mt_cd_of (q := (89, .aload_n 0, 1)) mq_201 ci_201 (List.mem_of_getElem? (i := 51) rfl)
theorem cd_201_90 : mt_cd 201 90 = some (.getfield 220) := mt_cd_of (q := (90, .getfield 220, 3)) mq_201 ci_201 (List.mem_of_getElem? (i := 52) rfl)
theorem cd_201_93 : mt_cd 201 93 = some (.iload_n 1) := mt_cd_of (q := (93, .iload_n 1, 1)) mq_201 ci_201 (List.mem_of_getElem? (i := 53) rfl)
theorem cd_201_94 : mt_cd 201 94 = some (.iaload) := mt_cd_of (q := (94, .iaload, 1)) mq_201 ci_201 (List.mem_of_getElem? (i := 54) rfl)
theorem cd_201_95 : mt_cd 201 95 = some (.i2l) := mt_cd_of (q := (95, .i2l, 1)) mq_201 ci_201 (List.mem_of_getElem? (i := 55) rfl)
theorem cd_201_96 : mt_cd 201 96 = some (.lreturn) := mt_cd_of (q := (96, .lreturn, 1)) mq_201 ci_201 (List.mem_of_getElem? (i := 56) rfl)
theorem b_201_0 {d : Nat} {Q : (Option Value ⊕ Nat) → mi_H → Prop} (n sl : Nat) (f : Nat → mi_C) {l1 : Nat} {l2 : Int32} {l3 : Int32} {fs4 : List Value} (h5 : f l1 = .inr (12, fs4)) (h6 : l1 < n) (h7 : 0 < fs4.length) (h8 : mi_W d 141 0 (mi_en 6 [.long ((l3 : Int32).toInt64), .long 0, .long 2]) [] (n, sl, (va_up f l1 (.inr (12, fs4.set 0 (.int 0))))) (mi_Kc d 201 12 [some (.ref l1), some (.int l2), some (.int l3)] [.ref l1] Q)) : mi_W (d + 1) 201 0 [some (.ref l1), some (.int l2), some (.int l3)] [] (n, sl, f) Q := by
  refine w_aload_n cd_201_0 rfl ?_
  refine w_iconst (v := 0) cd_201_1 (by decide) ?_
  refine w_putfield (w := .int 0) cd_201_2 (show mt_f 12 248 = some (12, 0) by decide +kernel) h5 h6 ⟨h7, rfl, Or.inl (by decide)⟩ ?_
  refine w_aload_n cd_201_5 rfl ?_
  refine w_iload_n cd_201_6 rfl ?_
  refine w_i2l cd_201_7 ?_
  refine w_lconst (lv := 0) cd_201_8 (by decide) ?_
  refine w_ldc2_w (lv := 2) cd_201_9 (by decide +kernel) ?_
  exact w_invokestatic cd_201_12 (show mt_m 12 268 = some (141, 4) by decide +kernel) (by decide) (rest := [.ref l1]) rfl (as := [.long ((l3 : Int32).toInt64), .long 0, .long 2]) rfl ⟨Nat.le_of_ble_eq_true rfl, Nat.le_of_ble_eq_true rfl, Nat.le_of_ble_eq_true rfl⟩ h8
theorem b_201_15 {d : Nat} {Q : (Option Value ⊕ Nat) → mi_H → Prop} (n sl : Nat) (f : Nat → mi_C) {l1 : Nat} {l2 : Int32} {l3 : Int32} {s4 : Int32} {s5 : Nat} (h6 : ¬ s4 = (0 : Int32) → mi_W d 201 22 [some (.ref l1), some (.int l2), some (.int l3)] [.ref s5] (n, sl, f) Q) (h7 : ¬ (¬ s4 = (0 : Int32)) → mi_W d 201 18 [some (.ref l1), some (.int l2), some (.int l3)] [.ref s5] (n, sl, f) Q) : mi_W d 201 15 [some (.ref l1), some (.int l2), some (.int l3)] [.int s4, .ref s5] (n, sl, f) Q := by
  exact w_ifne cd_201_15 (by decide) h6 h7
theorem b_201_18 {d : Nat} {Q : (Option Value ⊕ Nat) → mi_H → Prop} (n sl : Nat) (f : Nat → mi_C) {l1 : Nat} {l2 : Int32} {l3 : Int32} {s4 : Nat} (h5 : mi_W d 201 23 [some (.ref l1), some (.int l2), some (.int l3)] [.int 1, .ref s4] (n, sl, f) Q) : mi_W d 201 18 [some (.ref l1), some (.int l2), some (.int l3)] [.ref s4] (n, sl, f) Q := by
  refine w_iconst (v := 1) cd_201_18 (by decide) ?_
  exact w_goto cd_201_19 (by decide) h5
theorem b_201_22 {d : Nat} {Q : (Option Value ⊕ Nat) → mi_H → Prop} (n sl : Nat) (f : Nat → mi_C) {l1 : Nat} {l2 : Int32} {l3 : Int32} {s4 : Nat} (h5 : mi_W d 201 23 [some (.ref l1), some (.int l2), some (.int l3)] [.int 0, .ref s4] (n, sl, f) Q) : mi_W d 201 22 [some (.ref l1), some (.int l2), some (.int l3)] [.ref s4] (n, sl, f) Q := by
  refine w_iconst (v := 0) cd_201_22 (by decide) ?_
  exact h5
theorem b_201_23 {d : Nat} {Q : (Option Value ⊕ Nat) → mi_H → Prop} (n sl : Nat) (f : Nat → mi_C) {l1 : Nat} {l2 : Int32} {l3 : Int32} {s4 : Int32} {s5 : Nat} {fs6 : List Value} (h7 : f s5 = .inr (12, fs6)) (h8 : s5 < n) (h9 : mi_W d 139 0 (mi_en 3 [.ref s5, .int s4, .int 1]) [] (n, sl, f) (mi_Kc d 201 24 [some (.ref l1), some (.int l2), some (.int l3)] [] Q)) : mi_W (d + 1) 201 23 [some (.ref l1), some (.int l2), some (.int l3)] [.int s4, .ref s5] (n, sl, f) Q := by
  refine w_iconst (v := 1) cd_201_23 (by decide) ?_
  exact w_invokevirtual cd_201_24 (show mt_m 12 254 = some (139, 0) by decide +kernel) (rest := []) rfl (as := [.ref s5, .int s4, .int 1]) rfl h7 (Or.inl h8) ⟨Nat.le_of_ble_eq_true rfl, Nat.le_of_ble_eq_true rfl, Nat.le_of_ble_eq_true rfl⟩ h9
theorem b_201_27 {d : Nat} {Q : (Option Value ⊕ Nat) → mi_H → Prop} (n sl : Nat) (f : Nat → mi_C) {l1 : Nat} {l2 : Int32} {l3 : Int32} {s4 : Int32} (h5 : ¬ s4 = (0 : Int32) → mi_W d 201 59 [some (.ref l1), some (.int l2), some (.int l3)] [] (n, sl, f) Q) (h6 : ¬ (¬ s4 = (0 : Int32)) → mi_W d 201 30 [some (.ref l1), some (.int l2), some (.int l3)] [] (n, sl, f) Q) : mi_W d 201 27 [some (.ref l1), some (.int l2), some (.int l3)] [.int s4] (n, sl, f) Q := by
  exact w_ifne cd_201_27 (by decide) h5 h6
theorem b_201_30 {d : Nat} {Q : (Option Value ⊕ Nat) → mi_H → Prop} (n sl : Nat) (f : Nat → mi_C) {l1 : Nat} {l2 : Int32} {l3 : Int32} {fs4 : List Value} {x7 : Int32} (h5 : f l1 = .inr (12, fs4)) (h6 : l1 < n) (h8 : fs4[75]? = some (.int x7)) (h9 : mi_W d 141 0 (mi_en 6 [.long ((l2 : Int32).toInt64), .long 0, .long (((x7 - 1) : Int32).toInt64)]) [] (n, sl, f) (mi_Kc d 201 41 [some (.ref l1), some (.int l2), some (.int l3)] [.ref l1] Q)) : mi_W (d + 1) 201 30 [some (.ref l1), some (.int l2), some (.int l3)] [] (n, sl, f) Q := by
  refine w_aload_n cd_201_30 rfl ?_
  refine w_iload_n cd_201_31 rfl ?_
  refine w_i2l cd_201_32 ?_
  refine w_lconst (lv := 0) cd_201_33 (by decide) ?_
  refine w_aload_n cd_201_34 rfl ?_
  refine w_getfield cd_201_35 (show mt_f 12 565 = some (12, 75) by decide +kernel) h5 h6 h8 ?_
  refine w_iconst (v := 1) cd_201_38 (by decide) ?_
  refine w_isub cd_201_39 ?_
  refine w_i2l cd_201_40 ?_
  exact w_invokestatic cd_201_41 (show mt_m 12 268 = some (141, 4) by decide +kernel) (by decide) (rest := [.ref l1]) rfl (as := [.long ((l2 : Int32).toInt64), .long 0, .long (((x7 - 1) : Int32).toInt64)]) rfl ⟨Nat.le_of_ble_eq_true rfl, Nat.le_of_ble_eq_true rfl, Nat.le_of_ble_eq_true rfl⟩ h9
theorem b_201_44 {d : Nat} {Q : (Option Value ⊕ Nat) → mi_H → Prop} (n sl : Nat) (f : Nat → mi_C) {l1 : Nat} {l2 : Int32} {l3 : Int32} {s4 : Int32} {s5 : Nat} (h6 : ¬ s4 = (0 : Int32) → mi_W d 201 51 [some (.ref l1), some (.int l2), some (.int l3)] [.ref s5] (n, sl, f) Q) (h7 : ¬ (¬ s4 = (0 : Int32)) → mi_W d 201 47 [some (.ref l1), some (.int l2), some (.int l3)] [.ref s5] (n, sl, f) Q) : mi_W d 201 44 [some (.ref l1), some (.int l2), some (.int l3)] [.int s4, .ref s5] (n, sl, f) Q := by
  exact w_ifne cd_201_44 (by decide) h6 h7
theorem b_201_47 {d : Nat} {Q : (Option Value ⊕ Nat) → mi_H → Prop} (n sl : Nat) (f : Nat → mi_C) {l1 : Nat} {l2 : Int32} {l3 : Int32} {s4 : Nat} (h5 : mi_W d 201 52 [some (.ref l1), some (.int l2), some (.int l3)] [.int 1, .ref s4] (n, sl, f) Q) : mi_W d 201 47 [some (.ref l1), some (.int l2), some (.int l3)] [.ref s4] (n, sl, f) Q := by
  refine w_iconst (v := 1) cd_201_47 (by decide) ?_
  exact w_goto cd_201_48 (by decide) h5
theorem b_201_51 {d : Nat} {Q : (Option Value ⊕ Nat) → mi_H → Prop} (n sl : Nat) (f : Nat → mi_C) {l1 : Nat} {l2 : Int32} {l3 : Int32} {s4 : Nat} (h5 : mi_W d 201 52 [some (.ref l1), some (.int l2), some (.int l3)] [.int 0, .ref s4] (n, sl, f) Q) : mi_W d 201 51 [some (.ref l1), some (.int l2), some (.int l3)] [.ref s4] (n, sl, f) Q := by
  refine w_iconst (v := 0) cd_201_51 (by decide) ?_
  exact h5
theorem b_201_52 {d : Nat} {Q : (Option Value ⊕ Nat) → mi_H → Prop} (n sl : Nat) (f : Nat → mi_C) {l1 : Nat} {l2 : Int32} {l3 : Int32} {s4 : Int32} {s5 : Nat} {fs6 : List Value} (h7 : f s5 = .inr (12, fs6)) (h8 : s5 < n) (h9 : mi_W d 139 0 (mi_en 3 [.ref s5, .int s4, .int 2]) [] (n, sl, f) (mi_Kc d 201 53 [some (.ref l1), some (.int l2), some (.int l3)] [] Q)) : mi_W (d + 1) 201 52 [some (.ref l1), some (.int l2), some (.int l3)] [.int s4, .ref s5] (n, sl, f) Q := by
  refine w_iconst (v := 2) cd_201_52 (by decide) ?_
  exact w_invokevirtual cd_201_53 (show mt_m 12 254 = some (139, 0) by decide +kernel) (rest := []) rfl (as := [.ref s5, .int s4, .int 2]) rfl h7 (Or.inl h8) ⟨Nat.le_of_ble_eq_true rfl, Nat.le_of_ble_eq_true rfl, Nat.le_of_ble_eq_true rfl⟩ h9
theorem b_201_56 {d : Nat} {Q : (Option Value ⊕ Nat) → mi_H → Prop} (n sl : Nat) (f : Nat → mi_C) {l1 : Nat} {l2 : Int32} {l3 : Int32} {s4 : Int32} (h5 : s4 = (0 : Int32) → mi_W d 201 61 [some (.ref l1), some (.int l2), some (.int l3)] [] (n, sl, f) Q) (h6 : ¬ (s4 = (0 : Int32)) → mi_W d 201 59 [some (.ref l1), some (.int l2), some (.int l3)] [] (n, sl, f) Q) : mi_W d 201 56 [some (.ref l1), some (.int l2), some (.int l3)] [.int s4] (n, sl, f) Q := by
  exact w_ifeq cd_201_56 (by decide) h5 h6
theorem b_201_59 {d : Nat} {Q : (Option Value ⊕ Nat) → mi_H → Prop} (n sl : Nat) (f : Nat → mi_C) {l1 : Nat} {l2 : Int32} {l3 : Int32} (h4 : Q (.inl (some (.long 0))) (n, sl, f)) : mi_W d 201 59 [some (.ref l1), some (.int l2), some (.int l3)] [] (n, sl, f) Q := by
  refine w_lconst (lv := 0) cd_201_59 (by decide) ?_
  exact w_lreturn cd_201_60 (by decide +kernel) h4
theorem b_201_61 {d : Nat} {Q : (Option Value ⊕ Nat) → mi_H → Prop} (n sl : Nat) (f : Nat → mi_C) {l1 : Nat} {l2 : Int32} {l3 : Int32} (h4 : ¬ l3 = (0 : Int32) → mi_W d 201 75 [some (.ref l1), some (.int l2), some (.int l3)] [] (n, sl, f) Q) (h5 : ¬ (¬ l3 = (0 : Int32)) → mi_W d 201 65 [some (.ref l1), some (.int l2), some (.int l3)] [] (n, sl, f) Q) : mi_W d 201 61 [some (.ref l1), some (.int l2), some (.int l3)] [] (n, sl, f) Q := by
  refine w_iload_n cd_201_61 rfl ?_
  exact w_ifne cd_201_62 (by decide) h4 h5
theorem b_201_65 {d : Nat} {Q : (Option Value ⊕ Nat) → mi_H → Prop} (n sl : Nat) (f : Nat → mi_C) {l1 : Nat} {l2 : Int32} {l3 : Int32} {fs4 : List Value} {x7 : Nat} (m9 i9 : Nat) (g9 : Nat → Int32) (h5 : f l1 = .inr (12, fs4)) (h6 : l1 < n) (h8 : fs4[78]? = some (.ref x7)) (h10 : f x7 = .inl (0, m9, .inl g9)) (h11 : x7 < n ∨ x7 = mi_SC) (h12 : mi_ix l2 m9 i9) (h13 : mi_W d 201 96 [some (.ref l1), some (.int l2), some (.int l3)] [.long (((g9 i9) : Int32).toInt64)] (n, sl, f) Q) : mi_W d 201 65 [some (.ref l1), some (.int l2), some (.int l3)] [] (n, sl, f) Q := by
  refine w_aload_n cd_201_65 rfl ?_
  refine w_getfield cd_201_66 (show mt_f 12 217 = some (12, 78) by decide +kernel) h5 h6 h8 ?_
  refine w_iload_n cd_201_69 rfl ?_
  refine w_iaload cd_201_70 h10 h11 h12 ?_
  refine w_i2l cd_201_71 ?_
  exact w_goto cd_201_72 (by decide) h13
theorem b_201_75 {d : Nat} {Q : (Option Value ⊕ Nat) → mi_H → Prop} (n sl : Nat) (f : Nat → mi_C) {l1 : Nat} {l2 : Int32} {l3 : Int32} (h4 : ¬ l3 = 1 → mi_W d 201 89 [some (.ref l1), some (.int l2), some (.int l3)] [] (n, sl, f) Q) (h5 : ¬ (¬ l3 = 1) → mi_W d 201 80 [some (.ref l1), some (.int l2), some (.int l3)] [] (n, sl, f) Q) : mi_W d 201 75 [some (.ref l1), some (.int l2), some (.int l3)] [] (n, sl, f) Q := by
  refine w_iload_n cd_201_75 rfl ?_
  refine w_iconst (v := 1) cd_201_76 (by decide) ?_
  exact w_if_icmpne cd_201_77 (by decide) h4 h5
theorem b_201_80 {d : Nat} {Q : (Option Value ⊕ Nat) → mi_H → Prop} (n sl : Nat) (f : Nat → mi_C) {l1 : Nat} {l2 : Int32} {l3 : Int32} {fs4 : List Value} {x7 : Nat} (m9 i9 : Nat) (g9 : Nat → Int64) (h5 : f l1 = .inr (12, fs4)) (h6 : l1 < n) (h8 : fs4[81]? = some (.ref x7)) (h10 : f x7 = .inl (3, m9, .inr (.inl g9))) (h11 : x7 < n) (h12 : mi_ix l2 m9 i9) (h13 : mi_W d 201 96 [some (.ref l1), some (.int l2), some (.int l3)] [.long (g9 i9)] (n, sl, f) Q) : mi_W d 201 80 [some (.ref l1), some (.int l2), some (.int l3)] [] (n, sl, f) Q := by
  refine w_aload_n cd_201_80 rfl ?_
  refine w_getfield cd_201_81 (show mt_f 12 226 = some (12, 81) by decide +kernel) h5 h6 h8 ?_
  refine w_iload_n cd_201_84 rfl ?_
  refine w_laload cd_201_85 h10 h11 h12 ?_
  exact w_goto cd_201_86 (by decide) h13
theorem b_201_89 {d : Nat} {Q : (Option Value ⊕ Nat) → mi_H → Prop} (n sl : Nat) (f : Nat → mi_C) {l1 : Nat} {l2 : Int32} {l3 : Int32} {fs4 : List Value} {x7 : Nat} (m9 i9 : Nat) (g9 : Nat → Int32) (h5 : f l1 = .inr (12, fs4)) (h6 : l1 < n) (h8 : fs4[79]? = some (.ref x7)) (h10 : f x7 = .inl (0, m9, .inl g9)) (h11 : x7 < n ∨ x7 = mi_SC) (h12 : mi_ix l2 m9 i9) (h13 : mi_W d 201 96 [some (.ref l1), some (.int l2), some (.int l3)] [.long (((g9 i9) : Int32).toInt64)] (n, sl, f) Q) : mi_W d 201 89 [some (.ref l1), some (.int l2), some (.int l3)] [] (n, sl, f) Q := by
  refine w_aload_n cd_201_89 rfl ?_
  refine w_getfield cd_201_90 (show mt_f 12 220 = some (12, 79) by decide +kernel) h5 h6 h8 ?_
  refine w_iload_n cd_201_93 rfl ?_
  refine w_iaload cd_201_94 h10 h11 h12 ?_
  refine w_i2l cd_201_95 ?_
  exact h13
theorem b_201_96 {d : Nat} {Q : (Option Value ⊕ Nat) → mi_H → Prop} (n sl : Nat) (f : Nat → mi_C) {l1 : Nat} {l2 : Int32} {l3 : Int32} {s4 : Int64} (h5 : Q (.inl (some (.long s4))) (n, sl, f)) : mi_W d 201 96 [some (.ref l1), some (.int l2), some (.int l3)] [.long s4] (n, sl, f) Q := by
  exact w_lreturn cd_201_96 (by decide +kernel) h5
/-! MarloweHostModel.count(I)I -/
set_option maxRecDepth 100000 in
theorem mq_202 : mt_q 202 = my_202 := rfl
set_option maxRecDepth 100000 in
theorem ci_202 : mt_inc 0 my_202.cd = true := by decide +kernel
theorem cd_202_0 : mt_cd 202 0 = some (.aload_n 0) := mt_cd_of (q := (0, .aload_n 0, 1)) mq_202 ci_202 (List.mem_of_getElem? (i := 0) rfl)
theorem cd_202_1 : mt_cd 202 1 = some (.iconst 0) := mt_cd_of (q := (1, .iconst 0, 1)) mq_202 ci_202 (List.mem_of_getElem? (i := 1) rfl)
theorem cd_202_2 : mt_cd 202 2 = some (.putfield 248) := mt_cd_of (q := (2, .putfield 248, 3)) mq_202 ci_202 (List.mem_of_getElem? (i := 2) rfl)
theorem cd_202_5 : mt_cd 202 5 = some (.aload_n 0) := mt_cd_of (q := (5, .aload_n 0, 1)) mq_202 ci_202 (List.mem_of_getElem? (i := 3) rfl)
theorem cd_202_6 : mt_cd 202 6 = some (.iload_n 1) := mt_cd_of (q := (6, .iload_n 1, 1)) mq_202 ci_202 (List.mem_of_getElem? (i := 4) rfl)
theorem cd_202_7 : mt_cd 202 7 = some (.i2l) := mt_cd_of (q := (7, .i2l, 1)) mq_202 ci_202 (List.mem_of_getElem? (i := 5) rfl)
theorem cd_202_8 : mt_cd 202 8 = some (.lconst 0) := mt_cd_of (q := (8, .lconst 0, 1)) mq_202 ci_202 (List.mem_of_getElem? (i := 6) rfl)
theorem cd_202_9 : mt_cd 202 9 = some (.ldc2_w 331) := mt_cd_of (q := (9, .ldc2_w 331, 3)) mq_202 ci_202 (List.mem_of_getElem? (i := 7) rfl)
theorem cd_202_12 : mt_cd 202 12 = some (.invokestatic 268) := mt_cd_of (q := (12, .invokestatic 268, 3)) mq_202 ci_202 (List.mem_of_getElem? (i := 8) rfl)
theorem cd_202_15 : mt_cd 202 15 = some (.ifCond .ne 7) := mt_cd_of (q := (15, .ifCond .ne 7, 3)) mq_202 ci_202 (List.mem_of_getElem? (i := 9) rfl)
theorem cd_202_18 : mt_cd 202 18 = some (.iconst 1) := mt_cd_of (q := (18, .iconst 1, 1)) mq_202 ci_202 (List.mem_of_getElem? (i := 10) rfl)
theorem cd_202_19 : mt_cd 202 19 = some (.goto 4) := mt_cd_of (q := (19, .goto 4, 3)) mq_202 ci_202 (List.mem_of_getElem? (i := 11) rfl)
theorem cd_202_22 : mt_cd 202 22 = some (.iconst 0) := mt_cd_of (q := (22, .iconst 0, 1)) mq_202 ci_202 (List.mem_of_getElem? (i := 12) rfl)
theorem cd_202_23 : mt_cd 202 23 = some (.iconst 1) := mt_cd_of (q := (23, .iconst 1, 1)) mq_202 ci_202 (List.mem_of_getElem? (i := 13) rfl)
theorem cd_202_24 : mt_cd 202 24 = some (.invokevirtual 254) := mt_cd_of (q := (24, .invokevirtual 254, 3)) mq_202 ci_202 (List.mem_of_getElem? (i := 14) rfl)
theorem cd_202_27 : mt_cd 202 27 = some (.ifCond .eq 5) := mt_cd_of (q := (27, .ifCond .eq 5, 3)) mq_202 ci_202 (List.mem_of_getElem? (i := 15) rfl)
theorem cd_202_30 : mt_cd 202 30 = some (.iconst 0) := mt_cd_of (q := (30, .iconst 0, 1)) mq_202 ci_202 (List.mem_of_getElem? (i := 16) rfl)
theorem cd_202_31 : mt_cd 202 31 = some (.ireturn) := mt_cd_of (q := (31, .ireturn, 1)) mq_202 ci_202 (List.mem_of_getElem? (i := 17) rfl)
theorem cd_202_32 : mt_cd 202 32 = some (.iload_n 1) := mt_cd_of (q := (32, .iload_n 1, 1)) mq_202 ci_202 (List.mem_of_getElem? (i := 18) rfl)
theorem cd_202_33 : mt_cd 202 33 = some (.bipush 6) := mt_cd_of (q := (33, .bipush 6, 2)) mq_202 ci_202 (List.mem_of_getElem? (i := 19) rfl)
theorem cd_202_35 : mt_cd 202 35 = some (.if_icmp .ge 20) := mt_cd_of (q := (35, .if_icmp .ge 20, 3)) mq_202 ci_202 (List.mem_of_getElem? (i := 20) rfl)
theorem cd_202_38 : mt_cd 202 38 = some (.aload_n 0) := mt_cd_of (q := (38, .aload_n 0, 1)) mq_202 ci_202 (List.mem_of_getElem? (i := 21) rfl)
theorem cd_202_39 : mt_cd 202 39 = some (.getfield 13) := mt_cd_of (q := (39, .getfield 13, 3)) mq_202 ci_202 (List.mem_of_getElem? (i := 22) rfl)
theorem cd_202_42 : mt_cd 202 42 = some (.ifCond .ge 13) := mt_cd_of (q := (42, .ifCond .ge 13, 3)) mq_202 ci_202 (List.mem_of_getElem? (i := 23) rfl)
theorem cd_202_45 : mt_cd 202 45 = some (.iload_n 1) := mt_cd_of (q := (45, .iload_n 1, 1)) mq_202 ci_202 (List.mem_of_getElem? (i := 24) rfl)
theorem cd_202_46 : mt_cd 202 46 = some (.ifCond .ne 7) := mt_cd_of (q := (46, .ifCond .ne 7, 3)) mq_202 ci_202 (List.mem_of_getElem? (i := 25) rfl)
theorem cd_202_49 : mt_cd 202 49 = some (.iconst (-1)) := mt_cd_of (q := (49, .iconst (-1), 1)) mq_202 ci_202 (List.mem_of_getElem? (i := 26) rfl)
theorem cd_202_50 : mt_cd 202 50 = some (.goto 4) := mt_cd_of (q := (50, .goto 4, 3)) mq_202 ci_202 (List.mem_of_getElem? (i := 27) rfl)
theorem cd_202_53 : mt_cd 202 53 = some (.iconst 0) := mt_cd_of (q := (53, .iconst 0, 1)) mq_202 ci_202 (List.mem_of_getElem? (i := 28) rfl)
theorem cd_202_54 : mt_cd 202 54 = some (.ireturn) := mt_cd_of (q := (54, .ireturn, 1)) mq_202 ci_202 (List.mem_of_getElem? (i := 29) rfl)
theorem cd_202_55 : mt_cd 202 55 = some (.iload_n 1) := mt_cd_of (q := (55, .iload_n 1, 1)) mq_202 ci_202 (List.mem_of_getElem? (i := 30) rfl)
theorem cd_202_56 : mt_cd 202 56 = some (.tableswitch 109 0 9 #[56, 64, 69, 74, 79, 84, 89, 94, 99, 104]) := mt_cd_of (q := (56, .tableswitch 109 0 9 #[56, 64, 69, 74, 79, 84, 89, 94, 99, 104], 56)) mq_202 ci_202 (List.mem_of_getElem? (i := 31) rfl)
theorem cd_202_112 : mt_cd 202 112 = some (.aload_n 0) := mt_cd_of (q := (112, .aload_n 0, 1)) mq_202 ci_202 (List.mem_of_getElem? (i := 32) rfl)
theorem cd_202_113 : mt_cd 202 113 = some (.getfield 147) := mt_cd_of (q := (113, .getfield 147, 3)) mq_202 ci_202 (List.mem_of_getElem? (i := 33) rfl)
theorem cd_202_116 : mt_cd 202 116 = some (.getfield 496) := mt_cd_of (q := (116, .getfield 496, 3)) mq_202 ci_202 (List.mem_of_getElem? (i := 34) rfl)
theorem cd_202_119 : mt_cd 202 119 = some (.ireturn) := mt_cd_of (q := (119, .ireturn, 1)) mq_202 ci_202 (List.mem_of_getElem? (i := 35) rfl)
theorem cd_202_120 : mt_cd 202 120 = some (.aload_n 0) := mt_cd_of (q := (120, .aload_n 0, 1)) mq_202 ci_202 (List.mem_of_getElem? (i := 36) rfl)
theorem cd_202_121 : mt_cd 202 121 = some (.getfield 282) := mt_cd_of (q := (121, .getfield 282, 3)) mq_202 ci_202 (List.mem_of_getElem? (i := 37) rfl)
theorem cd_202_124 : mt_cd 202 124 = some (.ireturn) := mt_cd_of (q := (124, .ireturn, 1)) mq_202 ci_202 (List.mem_of_getElem? (i := 38) rfl)
theorem cd_202_125 : mt_cd 202 125 = some (.aload_n 0) := mt_cd_of (q := (125, .aload_n 0, 1)) mq_202 ci_202 (List.mem_of_getElem? (i := 39) rfl)
theorem cd_202_126 : mt_cd 202 126 = some (.getfield 343) := mt_cd_of (q := (126, .getfield 343, 3)) mq_202 ci_202 (List.mem_of_getElem? (i := 40) rfl)
theorem cd_202_129 : mt_cd 202 129 = some (.ireturn) := mt_cd_of (q := (129, .ireturn, 1)) mq_202 ci_202 (List.mem_of_getElem? (i := 41) rfl)
theorem cd_202_130 : mt_cd 202 130 = some (.aload_n 0) := mt_cd_of (q := (130, .aload_n 0, 1)) mq_202 ci_202 (List.mem_of_getElem? (i := 42) rfl)
theorem cd_202_131 : mt_cd 202 131 = some (.getfield 346) := mt_cd_of (q := (131, .getfield 346, 3)) mq_202 ci_202 (List.mem_of_getElem? (i := 43) rfl)
theorem cd_202_134 : mt_cd 202 134 = some (.ireturn) := mt_cd_of (q := (134, .ireturn, 1)) mq_202 ci_202 (List.mem_of_getElem? (i := 44) rfl)
theorem cd_202_135 : mt_cd 202 135 = some (.aload_n 0) := mt_cd_of (q := (135, .aload_n 0, 1)) mq_202 ci_202 (List.mem_of_getElem? (i := 45) rfl)
theorem cd_202_136 : mt_cd 202 136 = some (.getfield 349) := mt_cd_of (q := (136, .getfield 349, 3)) mq_202 ci_202 (List.mem_of_getElem? (i := 46) rfl)
theorem cd_202_139 : mt_cd 202 139 = some (.ireturn) := mt_cd_of (q := (139, .ireturn, 1)) mq_202 ci_202 (List.mem_of_getElem? (i := 47) rfl)
theorem cd_202_140 : mt_cd 202 140 = some (.aload_n 0) := mt_cd_of (q := (140, .aload_n 0, 1)) mq_202 ci_202 (List.mem_of_getElem? (i := 48) rfl)
theorem cd_202_141 : mt_cd 202 141 = some (.getfield 352) := mt_cd_of (q := (141, .getfield 352, 3)) mq_202 ci_202 (List.mem_of_getElem? (i := 49) rfl)
theorem cd_202_144 : mt_cd 202 144 = some (.ireturn) := mt_cd_of (q := (144, .ireturn, 1)) mq_202 ci_202 (List.mem_of_getElem? (i := 50) rfl)
theorem cd_202_145 : mt_cd 202 145 = some (.aload_n 0) := mt_cd_of (q := (145, .aload_n 0, 1)) mq_202 ci_202 (List.mem_of_getElem? (i := 51) rfl)
theorem cd_202_146 : mt_cd 202 146 = some (.getfield 258) := mt_cd_of (q := (146, .getfield 258, 3)) mq_202 ci_202 (List.mem_of_getElem? (i := 52) rfl)
theorem cd_202_149 : mt_cd 202 149 = some (.ireturn) := mt_cd_of (q := (149, .ireturn, 1)) mq_202 ci_202 (List.mem_of_getElem? (i := 53) rfl)
theorem cd_202_150 : mt_cd 202 150 = some (.aload_n 0) := mt_cd_of (q := (150, .aload_n 0, 1)) mq_202 ci_202 (List.mem_of_getElem? (i := 54) rfl)
theorem cd_202_151 : mt_cd 202 151 = some (.getfield 536) := mt_cd_of (q := (151, .getfield 536, 3)) mq_202 ci_202 (List.mem_of_getElem? (i := 55) rfl)
theorem cd_202_154 : mt_cd 202 154 = some (.ireturn) := mt_cd_of (q := (154, .ireturn, 1)) mq_202 ci_202 (List.mem_of_getElem? (i := 56) rfl)
theorem cd_202_155 : mt_cd 202 155 = some (.aload_n 0) := mt_cd_of (q := (155, .aload_n 0, 1)) mq_202 ci_202 (List.mem_of_getElem? (i := 57) rfl)
theorem cd_202_156 : mt_cd 202 156 = some (.getfield 539) := mt_cd_of (q := (156, .getfield 539, 3)) mq_202 ci_202 (List.mem_of_getElem? (i := 58) rfl)
theorem cd_202_159 : mt_cd 202 159 = some (.ireturn) := mt_cd_of (q := (159, .ireturn, 1)) mq_202 ci_202 (List.mem_of_getElem? (i := 59) rfl)
theorem cd_202_160 : mt_cd 202 160 = some (.aload_n 0) := mt_cd_of (q := (160, .aload_n 0, 1)) mq_202 ci_202 (List.mem_of_getElem? (i := 60) rfl)
theorem cd_202_161 : mt_cd 202 161 = some (.getfield 562) := mt_cd_of (q := (161, .getfield 562, 3)) mq_202 ci_202 (List.mem_of_getElem? (i := 61) rfl)
theorem cd_202_164 : mt_cd 202 164 = some (.ireturn) := mt_cd_of (q := (164, .ireturn, 1)) mq_202 ci_202 (List.mem_of_getElem? (i := 62) rfl)
theorem cd_202_165 : mt_cd 202 165 = some (.aload_n 0) := mt_cd_of (q := (165, .aload_n 0, 1)) mq_202 ci_202 (List.mem_of_getElem? (i := 63) rfl)
theorem cd_202_166 : mt_cd 202 166 = some (.getfield 565) := mt_cd_of (q := (166, .getfield 565, 3)) mq_202 ci_202 (List.mem_of_getElem? (i := 64) rfl)
theorem cd_202_169 : mt_cd 202 169 = some (.ireturn) := mt_cd_of (q := (169, .ireturn, 1)) mq_202 ci_202 (List.mem_of_getElem? (i := 65) rfl)
theorem b_202_0 {d : Nat} {Q : (Option Value ⊕ Nat) → mi_H → Prop} (n sl : Nat) (f : Nat → mi_C) {l1 : Nat} {l2 : Int32} {fs3 : List Value} (h4 : f l1 = .inr (12, fs3)) (h5 : l1 < n) (h6 : 0 < fs3.length) (h7 : mi_W d 141 0 (mi_en 6 [.long ((l2 : Int32).toInt64), .long 0, .long 10]) [] (n, sl, (va_up f l1 (.inr (12, fs3.set 0 (.int 0))))) (mi_Kc d 202 12 [some (.ref l1), some (.int l2)] [.ref l1] Q)) : mi_W (d + 1) 202 0 [some (.ref l1), some (.int l2)] [] (n, sl, f) Q := by
  refine w_aload_n cd_202_0 rfl ?_
  refine w_iconst (v := 0) cd_202_1 (by decide) ?_
  refine w_putfield (w := .int 0) cd_202_2 (show mt_f 12 248 = some (12, 0) by decide +kernel) h4 h5 ⟨h6, rfl, Or.inl (by decide)⟩ ?_
  refine w_aload_n cd_202_5 rfl ?_
  refine w_iload_n cd_202_6 rfl ?_
  refine w_i2l cd_202_7 ?_
  refine w_lconst (lv := 0) cd_202_8 (by decide) ?_
  refine w_ldc2_w (lv := 10) cd_202_9 (by decide +kernel) ?_
  exact w_invokestatic cd_202_12 (show mt_m 12 268 = some (141, 4) by decide +kernel) (by decide) (rest := [.ref l1]) rfl (as := [.long ((l2 : Int32).toInt64), .long 0, .long 10]) rfl ⟨Nat.le_of_ble_eq_true rfl, Nat.le_of_ble_eq_true rfl, Nat.le_of_ble_eq_true rfl⟩ h7
theorem b_202_15 {d : Nat} {Q : (Option Value ⊕ Nat) → mi_H → Prop} (n sl : Nat) (f : Nat → mi_C) {l1 : Nat} {l2 : Int32} {s3 : Int32} {s4 : Nat} (h5 : ¬ s3 = (0 : Int32) → mi_W d 202 22 [some (.ref l1), some (.int l2)] [.ref s4] (n, sl, f) Q) (h6 : ¬ (¬ s3 = (0 : Int32)) → mi_W d 202 18 [some (.ref l1), some (.int l2)] [.ref s4] (n, sl, f) Q) : mi_W d 202 15 [some (.ref l1), some (.int l2)] [.int s3, .ref s4] (n, sl, f) Q := by
  exact w_ifne cd_202_15 (by decide) h5 h6
theorem b_202_18 {d : Nat} {Q : (Option Value ⊕ Nat) → mi_H → Prop} (n sl : Nat) (f : Nat → mi_C) {l1 : Nat} {l2 : Int32} {s3 : Nat} (h4 : mi_W d 202 23 [some (.ref l1), some (.int l2)] [.int 1, .ref s3] (n, sl, f) Q) : mi_W d 202 18 [some (.ref l1), some (.int l2)] [.ref s3] (n, sl, f) Q := by
  refine w_iconst (v := 1) cd_202_18 (by decide) ?_
  exact w_goto cd_202_19 (by decide) h4
theorem b_202_22 {d : Nat} {Q : (Option Value ⊕ Nat) → mi_H → Prop} (n sl : Nat) (f : Nat → mi_C) {l1 : Nat} {l2 : Int32} {s3 : Nat} (h4 : mi_W d 202 23 [some (.ref l1), some (.int l2)] [.int 0, .ref s3] (n, sl, f) Q) : mi_W d 202 22 [some (.ref l1), some (.int l2)] [.ref s3] (n, sl, f) Q := by
  refine w_iconst (v := 0) cd_202_22 (by decide) ?_
  exact h4
theorem b_202_23 {d : Nat} {Q : (Option Value ⊕ Nat) → mi_H → Prop} (n sl : Nat) (f : Nat → mi_C) {l1 : Nat} {l2 : Int32} {s3 : Int32} {s4 : Nat} {fs5 : List Value} (h6 : f s4 = .inr (12, fs5)) (h7 : s4 < n) (h8 : mi_W d 139 0 (mi_en 3 [.ref s4, .int s3, .int 1]) [] (n, sl, f) (mi_Kc d 202 24 [some (.ref l1), some (.int l2)] [] Q)) : mi_W (d + 1) 202 23 [some (.ref l1), some (.int l2)] [.int s3, .ref s4] (n, sl, f) Q := by
  refine w_iconst (v := 1) cd_202_23 (by decide) ?_
  exact w_invokevirtual cd_202_24 (show mt_m 12 254 = some (139, 0) by decide +kernel) (rest := []) rfl (as := [.ref s4, .int s3, .int 1]) rfl h6 (Or.inl h7) ⟨Nat.le_of_ble_eq_true rfl, Nat.le_of_ble_eq_true rfl, Nat.le_of_ble_eq_true rfl⟩ h8
theorem b_202_27 {d : Nat} {Q : (Option Value ⊕ Nat) → mi_H → Prop} (n sl : Nat) (f : Nat → mi_C) {l1 : Nat} {l2 : Int32} {s3 : Int32} (h4 : s3 = (0 : Int32) → mi_W d 202 32 [some (.ref l1), some (.int l2)] [] (n, sl, f) Q) (h5 : ¬ (s3 = (0 : Int32)) → mi_W d 202 30 [some (.ref l1), some (.int l2)] [] (n, sl, f) Q) : mi_W d 202 27 [some (.ref l1), some (.int l2)] [.int s3] (n, sl, f) Q := by
  exact w_ifeq cd_202_27 (by decide) h4 h5
theorem b_202_30 {d : Nat} {Q : (Option Value ⊕ Nat) → mi_H → Prop} (n sl : Nat) (f : Nat → mi_C) {l1 : Nat} {l2 : Int32} (h3 : Q (.inl (some (.int 0))) (n, sl, f)) : mi_W d 202 30 [some (.ref l1), some (.int l2)] [] (n, sl, f) Q := by
  refine w_iconst (v := 0) cd_202_30 (by decide) ?_
  exact w_ireturn_i cd_202_31 (by decide +kernel) h3
theorem b_202_32 {d : Nat} {Q : (Option Value ⊕ Nat) → mi_H → Prop} (n sl : Nat) (f : Nat → mi_C) {l1 : Nat} {l2 : Int32} (h3 : 6 ≤ l2 → mi_W d 202 55 [some (.ref l1), some (.int l2)] [] (n, sl, f) Q) (h4 : ¬ (6 ≤ l2) → mi_W d 202 38 [some (.ref l1), some (.int l2)] [] (n, sl, f) Q) : mi_W d 202 32 [some (.ref l1), some (.int l2)] [] (n, sl, f) Q := by
  refine w_iload_n cd_202_32 rfl ?_
  refine w_bipush (v := 6) cd_202_33 (by decide) ?_
  exact w_if_icmpge cd_202_35 (by decide) h3 h4
theorem b_202_38 {d : Nat} {Q : (Option Value ⊕ Nat) → mi_H → Prop} (n sl : Nat) (f : Nat → mi_C) {l1 : Nat} {l2 : Int32} {fs3 : List Value} {x6 : Int32} (h4 : f l1 = .inr (12, fs3)) (h5 : l1 < n) (h7 : fs3[4]? = some (.int x6)) (h8 : (0 : Int32) ≤ x6 → mi_W d 202 55 [some (.ref l1), some (.int l2)] [] (n, sl, f) Q) (h9 : ¬ ((0 : Int32) ≤ x6) → mi_W d 202 45 [some (.ref l1), some (.int l2)] [] (n, sl, f) Q) : mi_W d 202 38 [some (.ref l1), some (.int l2)] [] (n, sl, f) Q := by
  refine w_aload_n cd_202_38 rfl ?_
  refine w_getfield cd_202_39 (show mt_f 12 13 = some (12, 4) by decide +kernel) h4 h5 h7 ?_
  exact w_ifge cd_202_42 (by decide) h8 h9
theorem b_202_45 {d : Nat} {Q : (Option Value ⊕ Nat) → mi_H → Prop} (n sl : Nat) (f : Nat → mi_C) {l1 : Nat} {l2 : Int32} (h3 : ¬ l2 = (0 : Int32) → mi_W d 202 53 [some (.ref l1), some (.int l2)] [] (n, sl, f) Q) (h4 : ¬ (¬ l2 = (0 : Int32)) → mi_W d 202 49 [some (.ref l1), some (.int l2)] [] (n, sl, f) Q) : mi_W d 202 45 [some (.ref l1), some (.int l2)] [] (n, sl, f) Q := by
  refine w_iload_n cd_202_45 rfl ?_
  exact w_ifne cd_202_46 (by decide) h3 h4
theorem b_202_49 {d : Nat} {Q : (Option Value ⊕ Nat) → mi_H → Prop} (n sl : Nat) (f : Nat → mi_C) {l1 : Nat} {l2 : Int32} (h3 : mi_W d 202 54 [some (.ref l1), some (.int l2)] [.int (-1)] (n, sl, f) Q) : mi_W d 202 49 [some (.ref l1), some (.int l2)] [] (n, sl, f) Q := by
  refine w_iconst (v := (-1)) cd_202_49 (by decide) ?_
  exact w_goto cd_202_50 (by decide) h3
theorem b_202_53 {d : Nat} {Q : (Option Value ⊕ Nat) → mi_H → Prop} (n sl : Nat) (f : Nat → mi_C) {l1 : Nat} {l2 : Int32} (h3 : mi_W d 202 54 [some (.ref l1), some (.int l2)] [.int 0] (n, sl, f) Q) : mi_W d 202 53 [some (.ref l1), some (.int l2)] [] (n, sl, f) Q := by
  refine w_iconst (v := 0) cd_202_53 (by decide) ?_
  exact h3
theorem b_202_54 {d : Nat} {Q : (Option Value ⊕ Nat) → mi_H → Prop} (n sl : Nat) (f : Nat → mi_C) {l1 : Nat} {l2 : Int32} {s3 : Int32} (h4 : Q (.inl (some (.int s3))) (n, sl, f)) : mi_W d 202 54 [some (.ref l1), some (.int l2)] [.int s3] (n, sl, f) Q := by
  exact w_ireturn_i cd_202_54 (by decide +kernel) h4
theorem b_202_55 {d : Nat} {Q : (Option Value ⊕ Nat) → mi_H → Prop} (n sl : Nat) (f : Nat → mi_C) {l1 : Nat} {l2 : Int32} {t3 : Nat} (h4 : mi_ts 56 109 0 9 #[56, 64, 69, 74, 79, 84, 89, 94, 99, 104] (l2 : Int32).toInt = some t3) (h5 : mi_W d 202 t3 [some (.ref l1), some (.int l2)] [] (n, sl, f) Q) : mi_W d 202 55 [some (.ref l1), some (.int l2)] [] (n, sl, f) Q := by
  refine w_iload_n cd_202_55 rfl ?_
  exact w_tableswitch cd_202_56 h4 h5
theorem b_202_112 {d : Nat} {Q : (Option Value ⊕ Nat) → mi_H → Prop} (n sl : Nat) (f : Nat → mi_C) {l1 : Nat} {l2 : Int32} {fs3 : List Value} {x6 : Nat} {fs8 : List Value} {x11 : Int32} (h4 : f l1 = .inr (12, fs3)) (h5 : l1 < n) (h7 : fs3[41]? = some (.ref x6)) (h9 : f x6 = .inr (13, fs8)) (h10 : x6 < n) (h12 : fs8[0]? = some (.int x11)) (h13 : Q (.inl (some (.int x11))) (n, sl, f)) : mi_W d 202 112 [some (.ref l1), some (.int l2)] [] (n, sl, f) Q := by
  refine w_aload_n cd_202_112 rfl ?_
  refine w_getfield cd_202_113 (show mt_f 12 147 = some (12, 41) by decide +kernel) h4 h5 h7 ?_
  refine w_getfield cd_202_116 (show mt_f 12 496 = some (13, 0) by decide +kernel) h9 h10 h12 ?_
  exact w_ireturn_i cd_202_119 (by decide +kernel) h13
theorem b_202_120 {d : Nat} {Q : (Option Value ⊕ Nat) → mi_H → Prop} (n sl : Nat) (f : Nat → mi_C) {l1 : Nat} {l2 : Int32} {fs3 : List Value} {x6 : Int32} (h4 : f l1 = .inr (12, fs3)) (h5 : l1 < n) (h7 : fs3[21]? = some (.int x6)) (h8 : Q (.inl (some (.int x6))) (n, sl, f)) : mi_W d 202 120 [some (.ref l1), some (.int l2)] [] (n, sl, f) Q := by
  refine w_aload_n cd_202_120 rfl ?_
  refine w_getfield cd_202_121 (show mt_f 12 282 = some (12, 21) by decide +kernel) h4 h5 h7 ?_
  exact w_ireturn_i cd_202_124 (by decide +kernel) h8
theorem b_202_125 {d : Nat} {Q : (Option Value ⊕ Nat) → mi_H → Prop} (n sl : Nat) (f : Nat → mi_C) {l1 : Nat} {l2 : Int32} {fs3 : List Value} {x6 : Int32} (h4 : f l1 = .inr (12, fs3)) (h5 : l1 < n) (h7 : fs3[24]? = some (.int x6)) (h8 : Q (.inl (some (.int x6))) (n, sl, f)) : mi_W d 202 125 [some (.ref l1), some (.int l2)] [] (n, sl, f) Q := by
  refine w_aload_n cd_202_125 rfl ?_
  refine w_getfield cd_202_126 (show mt_f 12 343 = some (12, 24) by decide +kernel) h4 h5 h7 ?_
  exact w_ireturn_i cd_202_129 (by decide +kernel) h8
theorem b_202_130 {d : Nat} {Q : (Option Value ⊕ Nat) → mi_H → Prop} (n sl : Nat) (f : Nat → mi_C) {l1 : Nat} {l2 : Int32} {fs3 : List Value} {x6 : Int32} (h4 : f l1 = .inr (12, fs3)) (h5 : l1 < n) (h7 : fs3[25]? = some (.int x6)) (h8 : Q (.inl (some (.int x6))) (n, sl, f)) : mi_W d 202 130 [some (.ref l1), some (.int l2)] [] (n, sl, f) Q := by
  refine w_aload_n cd_202_130 rfl ?_
  refine w_getfield cd_202_131 (show mt_f 12 346 = some (12, 25) by decide +kernel) h4 h5 h7 ?_
  exact w_ireturn_i cd_202_134 (by decide +kernel) h8
theorem b_202_135 {d : Nat} {Q : (Option Value ⊕ Nat) → mi_H → Prop} (n sl : Nat) (f : Nat → mi_C) {l1 : Nat} {l2 : Int32} {fs3 : List Value} {x6 : Int32} (h4 : f l1 = .inr (12, fs3)) (h5 : l1 < n) (h7 : fs3[26]? = some (.int x6)) (h8 : Q (.inl (some (.int x6))) (n, sl, f)) : mi_W d 202 135 [some (.ref l1), some (.int l2)] [] (n, sl, f) Q := by
  refine w_aload_n cd_202_135 rfl ?_
  refine w_getfield cd_202_136 (show mt_f 12 349 = some (12, 26) by decide +kernel) h4 h5 h7 ?_
  exact w_ireturn_i cd_202_139 (by decide +kernel) h8
theorem b_202_140 {d : Nat} {Q : (Option Value ⊕ Nat) → mi_H → Prop} (n sl : Nat) (f : Nat → mi_C) {l1 : Nat} {l2 : Int32} {fs3 : List Value} {x6 : Int32} (h4 : f l1 = .inr (12, fs3)) (h5 : l1 < n) (h7 : fs3[27]? = some (.int x6)) (h8 : Q (.inl (some (.int x6))) (n, sl, f)) : mi_W d 202 140 [some (.ref l1), some (.int l2)] [] (n, sl, f) Q := by
  refine w_aload_n cd_202_140 rfl ?_
  refine w_getfield cd_202_141 (show mt_f 12 352 = some (12, 27) by decide +kernel) h4 h5 h7 ?_
  exact w_ireturn_i cd_202_144 (by decide +kernel) h8
theorem b_202_145 {d : Nat} {Q : (Option Value ⊕ Nat) → mi_H → Prop} (n sl : Nat) (f : Nat → mi_C) {l1 : Nat} {l2 : Int32} {fs3 : List Value} {x6 : Int32} (h4 : f l1 = .inr (12, fs3)) (h5 : l1 < n) (h7 : fs3[59]? = some (.int x6)) (h8 : Q (.inl (some (.int x6))) (n, sl, f)) : mi_W d 202 145 [some (.ref l1), some (.int l2)] [] (n, sl, f) Q := by
  refine w_aload_n cd_202_145 rfl ?_
  refine w_getfield cd_202_146 (show mt_f 12 258 = some (12, 59) by decide +kernel) h4 h5 h7 ?_
  exact w_ireturn_i cd_202_149 (by decide +kernel) h8
theorem b_202_150 {d : Nat} {Q : (Option Value ⊕ Nat) → mi_H → Prop} (n sl : Nat) (f : Nat → mi_C) {l1 : Nat} {l2 : Int32} {fs3 : List Value} {x6 : Int32} (h4 : f l1 = .inr (12, fs3)) (h5 : l1 < n) (h7 : fs3[65]? = some (.int x6)) (h8 : Q (.inl (some (.int x6))) (n, sl, f)) : mi_W d 202 150 [some (.ref l1), some (.int l2)] [] (n, sl, f) Q := by
  refine w_aload_n cd_202_150 rfl ?_
  refine w_getfield cd_202_151 (show mt_f 12 536 = some (12, 65) by decide +kernel) h4 h5 h7 ?_
  exact w_ireturn_i cd_202_154 (by decide +kernel) h8
theorem b_202_155 {d : Nat} {Q : (Option Value ⊕ Nat) → mi_H → Prop} (n sl : Nat) (f : Nat → mi_C) {l1 : Nat} {l2 : Int32} {fs3 : List Value} {x6 : Int32} (h4 : f l1 = .inr (12, fs3)) (h5 : l1 < n) (h7 : fs3[66]? = some (.int x6)) (h8 : Q (.inl (some (.int x6))) (n, sl, f)) : mi_W d 202 155 [some (.ref l1), some (.int l2)] [] (n, sl, f) Q := by
  refine w_aload_n cd_202_155 rfl ?_
  refine w_getfield cd_202_156 (show mt_f 12 539 = some (12, 66) by decide +kernel) h4 h5 h7 ?_
  exact w_ireturn_i cd_202_159 (by decide +kernel) h8
theorem b_202_160 {d : Nat} {Q : (Option Value ⊕ Nat) → mi_H → Prop} (n sl : Nat) (f : Nat → mi_C) {l1 : Nat} {l2 : Int32} {fs3 : List Value} {x6 : Int32} (h4 : f l1 = .inr (12, fs3)) (h5 : l1 < n) (h7 : fs3[73]? = some (.int x6)) (h8 : Q (.inl (some (.int x6))) (n, sl, f)) : mi_W d 202 160 [some (.ref l1), some (.int l2)] [] (n, sl, f) Q := by
  refine w_aload_n cd_202_160 rfl ?_
  refine w_getfield cd_202_161 (show mt_f 12 562 = some (12, 73) by decide +kernel) h4 h5 h7 ?_
  exact w_ireturn_i cd_202_164 (by decide +kernel) h8
theorem b_202_165 {d : Nat} {Q : (Option Value ⊕ Nat) → mi_H → Prop} (n sl : Nat) (f : Nat → mi_C) {l1 : Nat} {l2 : Int32} {fs3 : List Value} {x6 : Int32} (h4 : f l1 = .inr (12, fs3)) (h5 : l1 < n) (h7 : fs3[75]? = some (.int x6)) (h8 : Q (.inl (some (.int x6))) (n, sl, f)) : mi_W d 202 165 [some (.ref l1), some (.int l2)] [] (n, sl, f) Q := by
  refine w_aload_n cd_202_165 rfl ?_
  refine w_getfield cd_202_166 (show mt_f 12 565 = some (12, 75) by decide +kernel) h4 h5 h7 ?_
  exact w_ireturn_i cd_202_169 (by decide +kernel) h8
/-! MarloweHostLaw.law([I)Z -/
set_option maxRecDepth 100000 in
theorem mq_203 : mt_q 203 = my_203 := rfl
set_option maxRecDepth 100000 in
theorem ci_203 : mt_inc 0 my_203.cd = true := by decide +kernel
theorem cd_203_0 : mt_cd 203 0 = some (.new 8) := mt_cd_of (q := (0, .new 8, 3)) mq_203 ci_203 (List.mem_append_left _ (show _ ∈ my_203_0 from List.mem_of_getElem? (i := 0) rfl))
theorem cd_203_3 : mt_cd 203 3 = some (.dup) := mt_cd_of (q := (3, .dup, 1)) mq_203 ci_203 (List.mem_append_left _ (show _ ∈ my_203_0 from List.mem_of_getElem? (i := 1) rfl))
theorem cd_203_4 : mt_cd 203 4 = some (.invokespecial 65) := mt_cd_of (q := (4, .invokespecial 65, 3)) mq_203 ci_203 (List.mem_append_left _ (show _ ∈ my_203_0 from List.mem_of_getElem? (i := 2) rfl))
theorem cd_203_7 : mt_cd 203 7 = some (.astore_n 1) := mt_cd_of (q := (7, .astore_n 1, 1)) mq_203 ci_203 (List.mem_append_left _ (show _ ∈ my_203_0 from List.mem_of_getElem? (i := 3) rfl))
theorem cd_203_8 : mt_cd 203 8 = some (.new 66) := mt_cd_of (q := (8, .new 66, 3)) mq_203 ci_203 (List.mem_append_left _ (show _ ∈ my_203_0 from List.mem_of_getElem? (i := 4) rfl))
theorem cd_203_11 : mt_cd 203 11 = some (.dup) := mt_cd_of (q := (11, .dup, 1)) mq_203 ci_203 (List.mem_append_left _ (show _ ∈ my_203_0 from List.mem_of_getElem? (i := 5) rfl))
theorem cd_203_12 : mt_cd 203 12 = some (.invokespecial 68) := mt_cd_of (q := (12, .invokespecial 68, 3)) mq_203 ci_203 (List.mem_append_left _ (show _ ∈ my_203_0 from List.mem_of_getElem? (i := 6) rfl))
theorem cd_203_15 : mt_cd 203 15 = some (.astore_n 2) := mt_cd_of (q := (15, .astore_n 2, 1)) mq_203 ci_203 (List.mem_append_left _ (show _ ∈ my_203_0 from List.mem_of_getElem? (i := 7) rfl))
theorem cd_203_16 : mt_cd 203 16 = some (.iconst 1) := mt_cd_of (q := (16, .iconst 1, 1)) mq_203 ci_203 (List.mem_append_left _ (show _ ∈ my_203_0 from List.mem_of_getElem? (i := 8) rfl))
theorem cd_203_17 : mt_cd 203 17 = some (.newarray .long) := mt_cd_of (q := (17, .newarray .long, 2)) mq_203 ci_203 (List.mem_append_left _ (show _ ∈ my_203_0 from List.mem_of_getElem? (i := 9) rfl))
theorem cd_203_19 : mt_cd 203 19 = some (.astore_n 3) := mt_cd_of (q := (19, .astore_n 3, 1)) mq_203 ci_203 (List.mem_append_left _ (show _ ∈ my_203_0 from List.mem_of_getElem? (i := 10) rfl))
theorem cd_203_20 : mt_cd 203 20 = some (.iconst 0) := mt_cd_of (q := (20, .iconst 0, 1)) mq_203 ci_203 (List.mem_append_left _ (show _ ∈ my_203_0 from List.mem_of_getElem? (i := 11) rfl))
theorem cd_203_21 : mt_cd 203 21 = some (.istore 4) := mt_cd_of (q := (21, .istore 4, 2)) mq_203 ci_203 (List.mem_append_left _ (show _ ∈ my_203_0 from List.mem_of_getElem? (i := 12) rfl))
theorem cd_203_23 : mt_cd 203 23 = some (.iload 4) := mt_cd_of (q := (23, .iload 4, 2)) mq_203 ci_203 (List.mem_append_left _ (show _ ∈ my_203_0 from List.mem_of_getElem? (i := 13) rfl))
theorem cd_203_25 : mt_cd 203 25 = some (.aload_n 0) := mt_cd_of (q := (25, .aload_n 0, 1)) mq_203 ci_203 (List.mem_append_left _ (show _ ∈ my_203_0 from List.mem_of_getElem? (i := 14) rfl))
theorem cd_203_26 : mt_cd 203 26 = some (.arraylength) := mt_cd_of (q := (26, .arraylength, 1)) mq_203 ci_203 (List.mem_append_left _ (show _ ∈ my_203_0 from List.mem_of_getElem? (i := 15) rfl))
theorem cd_203_27 : mt_cd 203 27 = some (.bipush 6) := mt_cd_of (q := (27, .bipush 6, 2)) mq_203 ci_203 (List.mem_append_left _ (show _ ∈ my_203_0 from List.mem_of_getElem? (i := 16) rfl))
theorem cd_203_29 : mt_cd 203 29 = some (.isub) := mt_cd_of (q := (29, .isub, 1)) mq_203 ci_203 (List.mem_append_left _ (show _ ∈ my_203_0 from List.mem_of_getElem? (i := 17) rfl))
theorem cd_203_30 : mt_cd 203 30 = some (.if_icmp .gt 1141) := mt_cd_of (q := (30, .if_icmp .gt 1141, 3)) mq_203 ci_203 (List.mem_append_left _ (show _ ∈ my_203_0 from List.mem_of_getElem? (i := 18) rfl))
theorem cd_203_33 : mt_cd 203 33 = some (.aload_n 0) := mt_cd_of (q := (33, .aload_n 0, 1)) mq_203 ci_203 (List.mem_append_left _ (show _ ∈ my_203_0 from List.mem_of_getElem? (i := 19) rfl))
theorem cd_203_34 : mt_cd 203 34 = some (.iload 4) := mt_cd_of (q := (34, .iload 4, 2)) mq_203 ci_203 (List.mem_append_left _ (show _ ∈ my_203_0 from List.mem_of_getElem? (i := 20) rfl))
theorem cd_203_36 : mt_cd 203 36 = some (.iaload) := mt_cd_of (q := (36, .iaload, 1)) mq_203 ci_203 (List.mem_append_left _ (show _ ∈ my_203_0 from List.mem_of_getElem? (i := 21) rfl))
theorem cd_203_37 : mt_cd 203 37 = some (.bipush 15) := mt_cd_of (q := (37, .bipush 15, 2)) mq_203 ci_203 (List.mem_append_left _ (show _ ∈ my_203_0 from List.mem_of_getElem? (i := 22) rfl))
theorem cd_203_39 : mt_cd 203 39 = some (.iand) := mt_cd_of (q := (39, .iand, 1)) mq_203 ci_203 (List.mem_append_left _ (show _ ∈ my_203_0 from List.mem_of_getElem? (i := 23) rfl))
theorem cd_203_40 : mt_cd 203 40 = some (.tableswitch 1125 0 13 #[72, 176, 232, 245, 356, 480, 580, 624, 756, 824, 879, 958, 1002, 1069]) := mt_cd_of (q := (40, .tableswitch 1125 0 13 #[72, 176, 232, 245, 356, 480, 580, 624, 756, 824, 879, 958, 1002, 1069], 72)) mq_203 ci_203 (List.mem_append_left _ (show _ ∈ my_203_0 from List.mem_of_getElem? (i := 24) rfl))
theorem cd_203_112 : mt_cd 203 112 = some (.aload_n 1) := mt_cd_of (q := (112, .aload_n 1, 1)) mq_203 ci_203 (List.mem_append_left _ (show _ ∈ my_203_0 from List.mem_of_getElem? (i := 25) rfl))
theorem cd_203_113 : mt_cd 203 113 = some (.aload_n 0) := mt_cd_of (q := (113, .aload_n 0, 1)) mq_203 ci_203 (List.mem_append_left _ (show _ ∈ my_203_0 from List.mem_of_getElem? (i := 26) rfl))
theorem cd_203_114 : mt_cd 203 114 = some (.iload 4) := mt_cd_of (q := (114, .iload 4, 2)) mq_203 ci_203 (List.mem_append_left _ (show _ ∈ my_203_0 from List.mem_of_getElem? (i := 27) rfl))
theorem cd_203_116 : mt_cd 203 116 = some (.iconst 1) := mt_cd_of (q := (116, .iconst 1, 1)) mq_203 ci_203 (List.mem_append_left _ (show _ ∈ my_203_0 from List.mem_of_getElem? (i := 28) rfl))
theorem cd_203_117 : mt_cd 203 117 = some (.iadd) := mt_cd_of (q := (117, .iadd, 1)) mq_203 ci_203 (List.mem_append_left _ (show _ ∈ my_203_0 from List.mem_of_getElem? (i := 29) rfl))
theorem cd_203_118 : mt_cd 203 118 = some (.iaload) := mt_cd_of (q := (118, .iaload, 1)) mq_203 ci_203 (List.mem_append_left _ (show _ ∈ my_203_0 from List.mem_of_getElem? (i := 30) rfl))
theorem cd_203_119 : mt_cd 203 119 = some (.aload_n 0) := mt_cd_of (q := (119, .aload_n 0, 1)) mq_203 ci_203 (List.mem_append_left _ (show _ ∈ my_203_0 from List.mem_of_getElem? (i := 31) rfl))
theorem cd_203_120 : mt_cd 203 120 = some (.iload 4) := mt_cd_of (q := (120, .iload 4, 2)) mq_203 ci_203 (List.mem_append_left _ (show _ ∈ my_203_0 from List.mem_of_getElem? (i := 32) rfl))
theorem cd_203_122 : mt_cd 203 122 = some (.iconst 2) := mt_cd_of (q := (122, .iconst 2, 1)) mq_203 ci_203 (List.mem_append_left _ (show _ ∈ my_203_0 from List.mem_of_getElem? (i := 33) rfl))
theorem cd_203_123 : mt_cd 203 123 = some (.iadd) := mt_cd_of (q := (123, .iadd, 1)) mq_203 ci_203 (List.mem_append_left _ (show _ ∈ my_203_0 from List.mem_of_getElem? (i := 34) rfl))
theorem cd_203_124 : mt_cd 203 124 = some (.iaload) := mt_cd_of (q := (124, .iaload, 1)) mq_203 ci_203 (List.mem_append_left _ (show _ ∈ my_203_0 from List.mem_of_getElem? (i := 35) rfl))
theorem cd_203_125 : mt_cd 203 125 = some (.aload_n 0) := mt_cd_of (q := (125, .aload_n 0, 1)) mq_203 ci_203 (List.mem_append_left _ (show _ ∈ my_203_0 from List.mem_of_getElem? (i := 36) rfl))
theorem cd_203_126 : mt_cd 203 126 = some (.iload 4) := mt_cd_of (q := (126, .iload 4, 2)) mq_203 ci_203 (List.mem_append_left _ (show _ ∈ my_203_0 from List.mem_of_getElem? (i := 37) rfl))
theorem cd_203_128 : mt_cd 203 128 = some (.iconst 3) := mt_cd_of (q := (128, .iconst 3, 1)) mq_203 ci_203 (List.mem_append_left _ (show _ ∈ my_203_0 from List.mem_of_getElem? (i := 38) rfl))
theorem cd_203_129 : mt_cd 203 129 = some (.iadd) := mt_cd_of (q := (129, .iadd, 1)) mq_203 ci_203 (List.mem_append_left _ (show _ ∈ my_203_0 from List.mem_of_getElem? (i := 39) rfl))
theorem cd_203_130 : mt_cd 203 130 = some (.iaload) := mt_cd_of (q := (130, .iaload, 1)) mq_203 ci_203 (List.mem_append_left _ (show _ ∈ my_203_0 from List.mem_of_getElem? (i := 40) rfl))
theorem cd_203_131 : mt_cd 203 131 = some (.aload_n 0) := mt_cd_of (q := (131, .aload_n 0, 1)) mq_203 ci_203 (List.mem_append_left _ (show _ ∈ my_203_0 from List.mem_of_getElem? (i := 41) rfl))
theorem cd_203_132 : mt_cd 203 132 = some (.iload 4) := mt_cd_of (q := (132, .iload 4, 2)) mq_203 ci_203 (List.mem_append_left _ (show _ ∈ my_203_0 from List.mem_of_getElem? (i := 42) rfl))
theorem cd_203_134 : mt_cd 203 134 = some (.iconst 4) := mt_cd_of (q := (134, .iconst 4, 1)) mq_203 ci_203 (List.mem_append_left _ (show _ ∈ my_203_0 from List.mem_of_getElem? (i := 43) rfl))
theorem cd_203_135 : mt_cd 203 135 = some (.iadd) := mt_cd_of (q := (135, .iadd, 1)) mq_203 ci_203 (List.mem_append_left _ (show _ ∈ my_203_0 from List.mem_of_getElem? (i := 44) rfl))
theorem cd_203_136 : mt_cd 203 136 = some (.iaload) := mt_cd_of (q := (136, .iaload, 1)) mq_203 ci_203 (List.mem_append_left _ (show _ ∈ my_203_0 from List.mem_of_getElem? (i := 45) rfl))
theorem cd_203_137 : mt_cd 203 137 = some (.aload_n 0) := mt_cd_of (q := (137, .aload_n 0, 1)) mq_203 ci_203 (List.mem_append_left _ (show _ ∈ my_203_0 from List.mem_of_getElem? (i := 46) rfl))
theorem cd_203_138 : mt_cd 203 138 = some (.iload 4) := mt_cd_of (q := (138, .iload 4, 2)) mq_203 ci_203 (List.mem_append_left _ (show _ ∈ my_203_0 from List.mem_of_getElem? (i := 47) rfl))
theorem cd_203_140 : mt_cd 203 140 = some (.iconst 5) := mt_cd_of (q := (140, .iconst 5, 1)) mq_203 ci_203 (List.mem_append_left _ (show _ ∈ my_203_0 from List.mem_of_getElem? (i := 48) rfl))
theorem cd_203_141 : mt_cd 203 141 = some (.iadd) := mt_cd_of (q := (141, .iadd, 1)) mq_203 ci_203 (List.mem_append_left _ (show _ ∈ my_203_0 from List.mem_of_getElem? (i := 49) rfl))
theorem cd_203_142 : mt_cd 203 142 = some (.iaload) := mt_cd_of (q := (142, .iaload, 1)) mq_203 ci_203 (List.mem_append_left _ (show _ ∈ my_203_0 from List.mem_of_getElem? (i := 50) rfl))
theorem cd_203_143 : mt_cd 203 143 = some (.aload_n 3) := mt_cd_of (q := (143, .aload_n 3, 1)) mq_203 ci_203 (List.mem_append_left _ (show _ ∈ my_203_0 from List.mem_of_getElem? (i := 51) rfl))
theorem cd_203_144 : mt_cd 203 144 = some (.invokestatic 69) := mt_cd_of (q := (144, .invokestatic 69, 3)) mq_203 ci_203 (List.mem_append_left _ (show _ ∈ my_203_0 from List.mem_of_getElem? (i := 52) rfl))
theorem cd_203_147 : mt_cd 203 147 = some (.istore 5) := mt_cd_of (q := (147, .istore 5, 2)) mq_203 ci_203 (List.mem_append_left _ (show _ ∈ my_203_0 from List.mem_of_getElem? (i := 53) rfl))
theorem cd_203_149 : mt_cd 203 149 = some (.aload_n 2) := mt_cd_of (q := (149, .aload_n 2, 1)) mq_203 ci_203 (List.mem_append_left _ (show _ ∈ my_203_0 from List.mem_of_getElem? (i := 54) rfl))
theorem cd_203_150 : mt_cd 203 150 = some (.aload_n 0) := mt_cd_of (q := (150, .aload_n 0, 1)) mq_203 ci_203 (List.mem_append_left _ (show _ ∈ my_203_0 from List.mem_of_getElem? (i := 55) rfl))
theorem cd_203_151 : mt_cd 203 151 = some (.iload 4) := mt_cd_of (q := (151, .iload 4, 2)) mq_203 ci_203 (List.mem_append_left _ (show _ ∈ my_203_0 from List.mem_of_getElem? (i := 56) rfl))
theorem cd_203_153 : mt_cd 203 153 = some (.iconst 1) := mt_cd_of (q := (153, .iconst 1, 1)) mq_203 ci_203 (List.mem_append_left _ (show _ ∈ my_203_0 from List.mem_of_getElem? (i := 57) rfl))
theorem cd_203_154 : mt_cd 203 154 = some (.iadd) := mt_cd_of (q := (154, .iadd, 1)) mq_203 ci_203 (List.mem_append_left _ (show _ ∈ my_203_0 from List.mem_of_getElem? (i := 58) rfl))
theorem cd_203_155 : mt_cd 203 155 = some (.iaload) := mt_cd_of (q := (155, .iaload, 1)) mq_203 ci_203 (List.mem_append_left _ (show _ ∈ my_203_0 from List.mem_of_getElem? (i := 59) rfl))
theorem cd_203_156 : mt_cd 203 156 = some (.aload_n 0) := mt_cd_of (q := (156, .aload_n 0, 1)) mq_203 ci_203 (List.mem_append_right _ (List.mem_append_left _ (show _ ∈ my_203_1 from List.mem_of_getElem? (i := 0) rfl)))
theorem cd_203_157 : mt_cd 203 157 = some (.iload 4) := mt_cd_of (q := (157, .iload 4, 2)) mq_203 ci_203 (List.mem_append_right _ (List.mem_append_left _ (show _ ∈ my_203_1 from List.mem_of_getElem? (i := 1) rfl)))
theorem cd_203_159 : mt_cd 203 159 = some (.iconst 2) := mt_cd_of (q := (159, .iconst 2, 1)) mq_203 ci_203 (List.mem_append_right _ (List.mem_append_left _ (show _ ∈ my_203_1 from List.mem_of_getElem? (i := 2) rfl)))
theorem cd_203_160 : mt_cd 203 160 = some (.iadd) := mt_cd_of (q := (160, .iadd, 1)) mq_203 ci_203 (List.mem_append_right _ (List.mem_append_left _ (show _ ∈ my_203_1 from List.mem_of_getElem? (i := 3) rfl)))
theorem cd_203_161 : mt_cd 203 161 = some (.iaload) := mt_cd_of (q := (161, .iaload, 1)) mq_203 ci_203 (List.mem_append_right _ (List.mem_append_left _ (show _ ∈ my_203_1 from List.mem_of_getElem? (i := 4) rfl)))
theorem cd_203_162 : mt_cd 203 162 = some (.aload_n 0) := mt_cd_of (q := (162, .aload_n 0, 1)) mq_203 ci_203 (List.mem_append_right _ (List.mem_append_left _ (show _ ∈ my_203_1 from List.mem_of_getElem? (i := 5) rfl)))
theorem cd_203_163 : mt_cd 203 163 = some (.iload 4) := mt_cd_of (q := (163, .iload 4, 2)) mq_203 ci_203 (List.mem_append_right _ (List.mem_append_left _ (show _ ∈ my_203_1 from List.mem_of_getElem? (i := 6) rfl)))
theorem cd_203_165 : mt_cd 203 165 = some (.iconst 3) := mt_cd_of (q := (165, .iconst 3, 1)) mq_203 ci_203 (List.mem_append_right _ (List.mem_append_left _ (show _ ∈ my_203_1 from List.mem_of_getElem? (i := 7) rfl)))
theorem cd_203_166 : mt_cd 203 166 = some (.iadd) := mt_cd_of (q := (166, .iadd, 1)) mq_203 ci_203 (List.mem_append_right _ (List.mem_append_left _ (show _ ∈ my_203_1 from List.mem_of_getElem? (i := 8) rfl)))
theorem cd_203_167 : mt_cd 203 167 = some (.iaload) := mt_cd_of (q := (167, .iaload, 1)) mq_203 ci_203 (List.mem_append_right _ (List.mem_append_left _ (show _ ∈ my_203_1 from List.mem_of_getElem? (i := 9) rfl)))
theorem cd_203_168 : mt_cd 203 168 = some (.aload_n 0) := mt_cd_of (q := (168, .aload_n 0, 1)) mq_203 ci_203 (List.mem_append_right _ (List.mem_append_left _ (show _ ∈ my_203_1 from List.mem_of_getElem? (i := 10) rfl)))
theorem cd_203_169 : mt_cd 203 169 = some (.iload 4) := mt_cd_of (q := (169, .iload 4, 2)) mq_203 ci_203 (List.mem_append_right _ (List.mem_append_left _ (show _ ∈ my_203_1 from List.mem_of_getElem? (i := 11) rfl)))
theorem cd_203_171 : mt_cd 203 171 = some (.iconst 4) := mt_cd_of (q := (171, .iconst 4, 1)) mq_203 ci_203 (List.mem_append_right _ (List.mem_append_left _ (show _ ∈ my_203_1 from List.mem_of_getElem? (i := 12) rfl)))
theorem cd_203_172 : mt_cd 203 172 = some (.iadd) := mt_cd_of (q := (172, .iadd, 1)) mq_203 ci_203 (List.mem_append_right _ (List.mem_append_left _ (show _ ∈ my_203_1 from List.mem_of_getElem? (i := 13) rfl)))
theorem cd_203_173 : mt_cd 203 173 = some (.iaload) := mt_cd_of (q := (173, .iaload, 1)) mq_203 ci_203 (List.mem_append_right _ (List.mem_append_left _ (show _ ∈ my_203_1 from List.mem_of_getElem? (i := 14) rfl)))
theorem cd_203_174 : mt_cd 203 174 = some (.aload_n 0) := mt_cd_of (q := (174, .aload_n 0, 1)) mq_203 ci_203 (List.mem_append_right _ (List.mem_append_left _ (show _ ∈ my_203_1 from List.mem_of_getElem? (i := 15) rfl)))
theorem cd_203_175 : mt_cd 203 175 = some (.iload 4) := mt_cd_of (q := (175, .iload 4, 2)) mq_203 ci_203 (List.mem_append_right _ (List.mem_append_left _ (show _ ∈ my_203_1 from List.mem_of_getElem? (i := 16) rfl)))
theorem cd_203_177 : mt_cd 203 177 = some (.iconst 5) := mt_cd_of (q := (177, .iconst 5, 1)) mq_203 ci_203 (List.mem_append_right _ (List.mem_append_left _ (show _ ∈ my_203_1 from List.mem_of_getElem? (i := 17) rfl)))
theorem cd_203_178 : mt_cd 203 178 = some (.iadd) := mt_cd_of (q := (178, .iadd, 1)) mq_203 ci_203 (List.mem_append_right _ (List.mem_append_left _ (show _ ∈ my_203_1 from List.mem_of_getElem? (i := 18) rfl)))
theorem cd_203_179 : mt_cd 203 179 = some (.iaload) := mt_cd_of (q := (179, .iaload, 1)) mq_203 ci_203 (List.mem_append_right _ (List.mem_append_left _ (show _ ∈ my_203_1 from List.mem_of_getElem? (i := 19) rfl)))
theorem cd_203_180 : mt_cd 203 180 = some (.invokevirtual 74) := mt_cd_of (q := (180, .invokevirtual 74, 3)) mq_203 ci_203 (List.mem_append_right _ (List.mem_append_left _ (show _ ∈ my_203_1 from List.mem_of_getElem? (i := 20) rfl)))
theorem cd_203_183 : mt_cd 203 183 = some (.istore 6) := mt_cd_of (q := (183, .istore 6, 2)) mq_203 ci_203 (List.mem_append_right _ (List.mem_append_left _ (show _ ∈ my_203_1 from List.mem_of_getElem? (i := 21) rfl)))
theorem cd_203_185 : mt_cd 203 185 = some (.aload_n 2) := mt_cd_of (q := (185, .aload_n 2, 1)) mq_203 ci_203 (List.mem_append_right _ (List.mem_append_left _ (show _ ∈ my_203_1 from List.mem_of_getElem? (i := 22) rfl)))
theorem cd_203_186 : mt_cd 203 186 = some (.invokevirtual 75) := mt_cd_of (q := (186, .invokevirtual 75, 3)) mq_203 ci_203 (List.mem_append_right _ (List.mem_append_left _ (show _ ∈ my_203_1 from List.mem_of_getElem? (i := 23) rfl)))
theorem cd_203_189 : mt_cd 203 189 = some (.iload 5) := mt_cd_of (q := (189, .iload 5, 2)) mq_203 ci_203 (List.mem_append_right _ (List.mem_append_left _ (show _ ∈ my_203_1 from List.mem_of_getElem? (i := 24) rfl)))
theorem cd_203_191 : mt_cd 203 191 = some (.if_icmp .eq 5) := mt_cd_of (q := (191, .if_icmp .eq 5, 3)) mq_203 ci_203 (List.mem_append_right _ (List.mem_append_left _ (show _ ∈ my_203_1 from List.mem_of_getElem? (i := 25) rfl)))
theorem cd_203_194 : mt_cd 203 194 = some (.iconst 0) := mt_cd_of (q := (194, .iconst 0, 1)) mq_203 ci_203 (List.mem_append_right _ (List.mem_append_left _ (show _ ∈ my_203_1 from List.mem_of_getElem? (i := 26) rfl)))
theorem cd_203_195 : mt_cd 203 195 = some (.ireturn) := mt_cd_of (q := (195, .ireturn, 1)) mq_203 ci_203 (List.mem_append_right _ (List.mem_append_left _ (show _ ∈ my_203_1 from List.mem_of_getElem? (i := 27) rfl)))
theorem cd_203_196 : mt_cd 203 196 = some (.iload 5) := mt_cd_of (q := (196, .iload 5, 2)) mq_203 ci_203 (List.mem_append_right _ (List.mem_append_left _ (show _ ∈ my_203_1 from List.mem_of_getElem? (i := 28) rfl)))
theorem cd_203_198 : mt_cd 203 198 = some (.ifCond .ne 15) := mt_cd_of (q := (198, .ifCond .ne 15, 3)) mq_203 ci_203 (List.mem_append_right _ (List.mem_append_left _ (show _ ∈ my_203_1 from List.mem_of_getElem? (i := 29) rfl)))
theorem cd_203_201 : mt_cd 203 201 = some (.aload_n 3) := mt_cd_of (q := (201, .aload_n 3, 1)) mq_203 ci_203 (List.mem_append_right _ (List.mem_append_left _ (show _ ∈ my_203_1 from List.mem_of_getElem? (i := 30) rfl)))
theorem cd_203_202 : mt_cd 203 202 = some (.iconst 0) := mt_cd_of (q := (202, .iconst 0, 1)) mq_203 ci_203 (List.mem_append_right _ (List.mem_append_left _ (show _ ∈ my_203_1 from List.mem_of_getElem? (i := 31) rfl)))
theorem cd_203_203 : mt_cd 203 203 = some (.laload) := mt_cd_of (q := (203, .laload, 1)) mq_203 ci_203 (List.mem_append_right _ (List.mem_append_left _ (show _ ∈ my_203_1 from List.mem_of_getElem? (i := 32) rfl)))
theorem cd_203_204 : mt_cd 203 204 = some (.iload 6) := mt_cd_of (q := (204, .iload 6, 2)) mq_203 ci_203 (List.mem_append_right _ (List.mem_append_left _ (show _ ∈ my_203_1 from List.mem_of_getElem? (i := 33) rfl)))
theorem cd_203_206 : mt_cd 203 206 = some (.i2l) := mt_cd_of (q := (206, .i2l, 1)) mq_203 ci_203 (List.mem_append_right _ (List.mem_append_left _ (show _ ∈ my_203_1 from List.mem_of_getElem? (i := 34) rfl)))
theorem cd_203_207 : mt_cd 203 207 = some (.lcmp) := mt_cd_of (q := (207, .lcmp, 1)) mq_203 ci_203 (List.mem_append_right _ (List.mem_append_left _ (show _ ∈ my_203_1 from List.mem_of_getElem? (i := 35) rfl)))
theorem cd_203_208 : mt_cd 203 208 = some (.ifCond .eq 5) := mt_cd_of (q := (208, .ifCond .eq 5, 3)) mq_203 ci_203 (List.mem_append_right _ (List.mem_append_left _ (show _ ∈ my_203_1 from List.mem_of_getElem? (i := 36) rfl)))
theorem cd_203_211 : mt_cd 203 211 = some (.iconst 0) := mt_cd_of (q := (211, .iconst 0, 1)) mq_203 ci_203 (List.mem_append_right _ (List.mem_append_left _ (show _ ∈ my_203_1 from List.mem_of_getElem? (i := 37) rfl)))
theorem cd_203_212 : mt_cd 203 212 = some (.ireturn) := mt_cd_of (q := (212, .ireturn, 1)) mq_203 ci_203 (List.mem_append_right _ (List.mem_append_left _ (show _ ∈ my_203_1 from List.mem_of_getElem? (i := 38) rfl)))
theorem cd_203_213 : mt_cd 203 213 = some (.goto 952) := mt_cd_of (q := (213, .goto 952, 3)) mq_203 ci_203 (List.mem_append_right _ (List.mem_append_left _ (show _ ∈ my_203_1 from List.mem_of_getElem? (i := 39) rfl)))
theorem cd_203_216 : mt_cd 203 216 = some (.aload_n 1) := mt_cd_of (q := (216, .aload_n 1, 1)) mq_203 ci_203 (List.mem_append_right _ (List.mem_append_left _ (show _ ∈ my_203_1 from List.mem_of_getElem? (i := 40) rfl)))
theorem cd_203_217 : mt_cd 203 217 = some (.aload_n 0) := mt_cd_of (q := (217, .aload_n 0, 1)) mq_203 ci_203 (List.mem_append_right _ (List.mem_append_left _ (show _ ∈ my_203_1 from List.mem_of_getElem? (i := 41) rfl)))
theorem cd_203_218 : mt_cd 203 218 = some (.iload 4) := mt_cd_of (q := (218, .iload 4, 2)) mq_203 ci_203 (List.mem_append_right _ (List.mem_append_left _ (show _ ∈ my_203_1 from List.mem_of_getElem? (i := 42) rfl)))
theorem cd_203_220 : mt_cd 203 220 = some (.iconst 1) := mt_cd_of (q := (220, .iconst 1, 1)) mq_203 ci_203 (List.mem_append_right _ (List.mem_append_left _ (show _ ∈ my_203_1 from List.mem_of_getElem? (i := 43) rfl)))
theorem cd_203_221 : mt_cd 203 221 = some (.iadd) := mt_cd_of (q := (221, .iadd, 1)) mq_203 ci_203 (List.mem_append_right _ (List.mem_append_left _ (show _ ∈ my_203_1 from List.mem_of_getElem? (i := 44) rfl)))
theorem cd_203_222 : mt_cd 203 222 = some (.iaload) := mt_cd_of (q := (222, .iaload, 1)) mq_203 ci_203 (List.mem_append_right _ (List.mem_append_left _ (show _ ∈ my_203_1 from List.mem_of_getElem? (i := 45) rfl)))
theorem cd_203_223 : mt_cd 203 223 = some (.aload_n 3) := mt_cd_of (q := (223, .aload_n 3, 1)) mq_203 ci_203 (List.mem_append_right _ (List.mem_append_left _ (show _ ∈ my_203_1 from List.mem_of_getElem? (i := 46) rfl)))
theorem cd_203_224 : mt_cd 203 224 = some (.invokestatic 78) := mt_cd_of (q := (224, .invokestatic 78, 3)) mq_203 ci_203 (List.mem_append_right _ (List.mem_append_left _ (show _ ∈ my_203_1 from List.mem_of_getElem? (i := 47) rfl)))
theorem cd_203_227 : mt_cd 203 227 = some (.istore 5) := mt_cd_of (q := (227, .istore 5, 2)) mq_203 ci_203 (List.mem_append_right _ (List.mem_append_left _ (show _ ∈ my_203_1 from List.mem_of_getElem? (i := 48) rfl)))
theorem cd_203_229 : mt_cd 203 229 = some (.aload_n 2) := mt_cd_of (q := (229, .aload_n 2, 1)) mq_203 ci_203 (List.mem_append_right _ (List.mem_append_left _ (show _ ∈ my_203_1 from List.mem_of_getElem? (i := 49) rfl)))
theorem cd_203_230 : mt_cd 203 230 = some (.aload_n 0) := mt_cd_of (q := (230, .aload_n 0, 1)) mq_203 ci_203 (List.mem_append_right _ (List.mem_append_left _ (show _ ∈ my_203_1 from List.mem_of_getElem? (i := 50) rfl)))
theorem cd_203_231 : mt_cd 203 231 = some (.iload 4) := mt_cd_of (q := (231, .iload 4, 2)) mq_203 ci_203 (List.mem_append_right _ (List.mem_append_left _ (show _ ∈ my_203_1 from List.mem_of_getElem? (i := 51) rfl)))
theorem cd_203_233 : mt_cd 203 233 = some (.iconst 1) := mt_cd_of (q := (233, .iconst 1, 1)) mq_203 ci_203 (List.mem_append_right _ (List.mem_append_left _ (show _ ∈ my_203_1 from List.mem_of_getElem? (i := 52) rfl)))
theorem cd_203_234 : mt_cd 203 234 = some (.iadd) := mt_cd_of (q := (234, .iadd, 1)) mq_203 ci_203 (List.mem_append_right _ (List.mem_append_left _ (show _ ∈ my_203_1 from List.mem_of_getElem? (i := 53) rfl)))
theorem cd_203_235 : mt_cd 203 235 = some (.iaload) := mt_cd_of (q := (235, .iaload, 1)) mq_203 ci_203 (List.mem_append_right _ (List.mem_append_left _ (show _ ∈ my_203_1 from List.mem_of_getElem? (i := 54) rfl)))
theorem cd_203_236 : mt_cd 203 236 = some (.invokevirtual 81) := mt_cd_of (q := (236, .invokevirtual 81, 3)) mq_203 ci_203 (List.mem_append_right _ (List.mem_append_left _ (show _ ∈ my_203_1 from List.mem_of_getElem? (i := 55) rfl)))
theorem cd_203_239 : mt_cd 203 239 = some (.istore 6) := mt_cd_of (q := (239, .istore 6, 2)) mq_203 ci_203 (List.mem_append_right _ (List.mem_append_left _ (show _ ∈ my_203_1 from List.mem_of_getElem? (i := 56) rfl)))
theorem cd_203_241 : mt_cd 203 241 = some (.aload_n 2) := mt_cd_of (q := (241, .aload_n 2, 1)) mq_203 ci_203 (List.mem_append_right _ (List.mem_append_left _ (show _ ∈ my_203_1 from List.mem_of_getElem? (i := 57) rfl)))
theorem cd_203_242 : mt_cd 203 242 = some (.invokevirtual 75) := mt_cd_of (q := (242, .invokevirtual 75, 3)) mq_203 ci_203 (List.mem_append_right _ (List.mem_append_left _ (show _ ∈ my_203_1 from List.mem_of_getElem? (i := 58) rfl)))
theorem cd_203_245 : mt_cd 203 245 = some (.iload 5) := mt_cd_of (q := (245, .iload 5, 2)) mq_203 ci_203 (List.mem_append_right _ (List.mem_append_left _ (show _ ∈ my_203_1 from List.mem_of_getElem? (i := 59) rfl)))
theorem cd_203_247 : mt_cd 203 247 = some (.if_icmp .eq 5) := mt_cd_of (q := (247, .if_icmp .eq 5, 3)) mq_203 ci_203 (List.mem_append_right _ (List.mem_append_right _ (List.mem_append_left _ (show _ ∈ my_203_2 from List.mem_of_getElem? (i := 0) rfl))))
theorem cd_203_250 : mt_cd 203 250 = some (.iconst 0) := mt_cd_of (q := (250, .iconst 0, 1)) mq_203 ci_203 (List.mem_append_right _ (List.mem_append_right _ (List.mem_append_left _ (show _ ∈ my_203_2 from List.mem_of_getElem? (i := 1) rfl))))
theorem cd_203_251 : mt_cd 203 251 = some (.ireturn) := mt_cd_of (q := (251, .ireturn, 1)) mq_203 ci_203 (List.mem_append_right _ (List.mem_append_right _ (List.mem_append_left _ (show _ ∈ my_203_2 from List.mem_of_getElem? (i := 2) rfl))))
theorem cd_203_252 : mt_cd 203 252 = some (.iload 5) := mt_cd_of (q := (252, .iload 5, 2)) mq_203 ci_203 (List.mem_append_right _ (List.mem_append_right _ (List.mem_append_left _ (show _ ∈ my_203_2 from List.mem_of_getElem? (i := 3) rfl))))
theorem cd_203_254 : mt_cd 203 254 = some (.ifCond .ne 15) := mt_cd_of (q := (254, .ifCond .ne 15, 3)) mq_203 ci_203 (List.mem_append_right _ (List.mem_append_right _ (List.mem_append_left _ (show _ ∈ my_203_2 from List.mem_of_getElem? (i := 4) rfl))))
theorem cd_203_257 : mt_cd 203 257 = some (.aload_n 3) := mt_cd_of (q := (257, .aload_n 3, 1)) mq_203 ci_203 (List.mem_append_right _ (List.mem_append_right _ (List.mem_append_left _ (show _ ∈ my_203_2 from List.mem_of_getElem? (i := 5) rfl))))
theorem cd_203_258 : mt_cd 203 258 = some (.iconst 0) := mt_cd_of (q := (258, .iconst 0, 1)) mq_203 ci_203 (List.mem_append_right _ (List.mem_append_right _ (List.mem_append_left _ (show _ ∈ my_203_2 from List.mem_of_getElem? (i := 6) rfl))))
theorem cd_203_259 : mt_cd 203 259 = some (.laload) := mt_cd_of (q := (259, .laload, 1)) mq_203 ci_203 (List.mem_append_right _ (List.mem_append_right _ (List.mem_append_left _ (show _ ∈ my_203_2 from List.mem_of_getElem? (i := 7) rfl))))
theorem cd_203_260 : mt_cd 203 260 = some (.iload 6) := mt_cd_of (q := (260, .iload 6, 2)) mq_203 ci_203 (List.mem_append_right _ (List.mem_append_right _ (List.mem_append_left _ (show _ ∈ my_203_2 from List.mem_of_getElem? (i := 8) rfl))))
theorem cd_203_262 : mt_cd 203 262 = some (.i2l) := mt_cd_of (q := (262, .i2l, 1)) mq_203 ci_203 (List.mem_append_right _ (List.mem_append_right _ (List.mem_append_left _ (show _ ∈ my_203_2 from List.mem_of_getElem? (i := 9) rfl))))
theorem cd_203_263 : mt_cd 203 263 = some (.lcmp) := mt_cd_of (q := (263, .lcmp, 1)) mq_203 ci_203 (List.mem_append_right _ (List.mem_append_right _ (List.mem_append_left _ (show _ ∈ my_203_2 from List.mem_of_getElem? (i := 10) rfl))))
theorem cd_203_264 : mt_cd 203 264 = some (.ifCond .eq 5) := mt_cd_of (q := (264, .ifCond .eq 5, 3)) mq_203 ci_203 (List.mem_append_right _ (List.mem_append_right _ (List.mem_append_left _ (show _ ∈ my_203_2 from List.mem_of_getElem? (i := 11) rfl))))
theorem cd_203_267 : mt_cd 203 267 = some (.iconst 0) := mt_cd_of (q := (267, .iconst 0, 1)) mq_203 ci_203 (List.mem_append_right _ (List.mem_append_right _ (List.mem_append_left _ (show _ ∈ my_203_2 from List.mem_of_getElem? (i := 12) rfl))))
theorem cd_203_268 : mt_cd 203 268 = some (.ireturn) := mt_cd_of (q := (268, .ireturn, 1)) mq_203 ci_203 (List.mem_append_right _ (List.mem_append_right _ (List.mem_append_left _ (show _ ∈ my_203_2 from List.mem_of_getElem? (i := 13) rfl))))
theorem cd_203_269 : mt_cd 203 269 = some (.goto 896) := mt_cd_of (q := (269, .goto 896, 3)) mq_203 ci_203 (List.mem_append_right _ (List.mem_append_right _ (List.mem_append_left _ (show _ ∈ my_203_2 from List.mem_of_getElem? (i := 14) rfl))))
theorem cd_203_272 : mt_cd 203 272 = some (.aload_n 1) := mt_cd_of (q := (272, .aload_n 1, 1)) mq_203 ci_203 (List.mem_append_right _ (List.mem_append_right _ (List.mem_append_left _ (show _ ∈ my_203_2 from List.mem_of_getElem? (i := 15) rfl))))
theorem cd_203_273 : mt_cd 203 273 = some (.invokevirtual 82) := mt_cd_of (q := (273, .invokevirtual 82, 3)) mq_203 ci_203 (List.mem_append_right _ (List.mem_append_right _ (List.mem_append_left _ (show _ ∈ my_203_2 from List.mem_of_getElem? (i := 16) rfl))))
theorem cd_203_276 : mt_cd 203 276 = some (.aload_n 2) := mt_cd_of (q := (276, .aload_n 2, 1)) mq_203 ci_203 (List.mem_append_right _ (List.mem_append_right _ (List.mem_append_left _ (show _ ∈ my_203_2 from List.mem_of_getElem? (i := 17) rfl))))
theorem cd_203_277 : mt_cd 203 277 = some (.invokevirtual 85) := mt_cd_of (q := (277, .invokevirtual 85, 3)) mq_203 ci_203 (List.mem_append_right _ (List.mem_append_right _ (List.mem_append_left _ (show _ ∈ my_203_2 from List.mem_of_getElem? (i := 18) rfl))))
theorem cd_203_280 : mt_cd 203 280 = some (.if_icmp .eq 885) := mt_cd_of (q := (280, .if_icmp .eq 885, 3)) mq_203 ci_203 (List.mem_append_right _ (List.mem_append_right _ (List.mem_append_left _ (show _ ∈ my_203_2 from List.mem_of_getElem? (i := 19) rfl))))
theorem cd_203_283 : mt_cd 203 283 = some (.iconst 0) := mt_cd_of (q := (283, .iconst 0, 1)) mq_203 ci_203 (List.mem_append_right _ (List.mem_append_right _ (List.mem_append_left _ (show _ ∈ my_203_2 from List.mem_of_getElem? (i := 20) rfl))))
theorem cd_203_284 : mt_cd 203 284 = some (.ireturn) := mt_cd_of (q := (284, .ireturn, 1)) mq_203 ci_203 (List.mem_append_right _ (List.mem_append_right _ (List.mem_append_left _ (show _ ∈ my_203_2 from List.mem_of_getElem? (i := 21) rfl))))
theorem cd_203_285 : mt_cd 203 285 = some (.aload_n 1) := mt_cd_of (q := (285, .aload_n 1, 1)) mq_203 ci_203 (List.mem_append_right _ (List.mem_append_right _ (List.mem_append_left _ (show _ ∈ my_203_2 from List.mem_of_getElem? (i := 22) rfl))))
theorem cd_203_286 : mt_cd 203 286 = some (.aload_n 0) := mt_cd_of (q := (286, .aload_n 0, 1)) mq_203 ci_203 (List.mem_append_right _ (List.mem_append_right _ (List.mem_append_left _ (show _ ∈ my_203_2 from List.mem_of_getElem? (i := 23) rfl))))
theorem cd_203_287 : mt_cd 203 287 = some (.iload 4) := mt_cd_of (q := (287, .iload 4, 2)) mq_203 ci_203 (List.mem_append_right _ (List.mem_append_right _ (List.mem_append_left _ (show _ ∈ my_203_2 from List.mem_of_getElem? (i := 24) rfl))))
theorem cd_203_289 : mt_cd 203 289 = some (.iconst 1) := mt_cd_of (q := (289, .iconst 1, 1)) mq_203 ci_203 (List.mem_append_right _ (List.mem_append_right _ (List.mem_append_left _ (show _ ∈ my_203_2 from List.mem_of_getElem? (i := 25) rfl))))
theorem cd_203_290 : mt_cd 203 290 = some (.iadd) := mt_cd_of (q := (290, .iadd, 1)) mq_203 ci_203 (List.mem_append_right _ (List.mem_append_right _ (List.mem_append_left _ (show _ ∈ my_203_2 from List.mem_of_getElem? (i := 26) rfl))))
theorem cd_203_291 : mt_cd 203 291 = some (.iaload) := mt_cd_of (q := (291, .iaload, 1)) mq_203 ci_203 (List.mem_append_right _ (List.mem_append_right _ (List.mem_append_left _ (show _ ∈ my_203_2 from List.mem_of_getElem? (i := 27) rfl))))
theorem cd_203_292 : mt_cd 203 292 = some (.aload_n 0) := mt_cd_of (q := (292, .aload_n 0, 1)) mq_203 ci_203 (List.mem_append_right _ (List.mem_append_right _ (List.mem_append_left _ (show _ ∈ my_203_2 from List.mem_of_getElem? (i := 28) rfl))))
theorem cd_203_293 : mt_cd 203 293 = some (.iload 4) := mt_cd_of (q := (293, .iload 4, 2)) mq_203 ci_203 (List.mem_append_right _ (List.mem_append_right _ (List.mem_append_left _ (show _ ∈ my_203_2 from List.mem_of_getElem? (i := 29) rfl))))
theorem cd_203_295 : mt_cd 203 295 = some (.iconst 2) := mt_cd_of (q := (295, .iconst 2, 1)) mq_203 ci_203 (List.mem_append_right _ (List.mem_append_right _ (List.mem_append_left _ (show _ ∈ my_203_2 from List.mem_of_getElem? (i := 30) rfl))))
theorem cd_203_296 : mt_cd 203 296 = some (.iadd) := mt_cd_of (q := (296, .iadd, 1)) mq_203 ci_203 (List.mem_append_right _ (List.mem_append_right _ (List.mem_append_left _ (show _ ∈ my_203_2 from List.mem_of_getElem? (i := 31) rfl))))
theorem cd_203_297 : mt_cd 203 297 = some (.iaload) := mt_cd_of (q := (297, .iaload, 1)) mq_203 ci_203 (List.mem_append_right _ (List.mem_append_right _ (List.mem_append_left _ (show _ ∈ my_203_2 from List.mem_of_getElem? (i := 32) rfl))))
theorem cd_203_298 : mt_cd 203 298 = some (.aload_n 0) := mt_cd_of (q := (298, .aload_n 0, 1)) mq_203 ci_203 (List.mem_append_right _ (List.mem_append_right _ (List.mem_append_left _ (show _ ∈ my_203_2 from List.mem_of_getElem? (i := 33) rfl))))
theorem cd_203_299 : mt_cd 203 299 = some (.iload 4) := mt_cd_of (q := (299, .iload 4, 2)) mq_203 ci_203 (List.mem_append_right _ (List.mem_append_right _ (List.mem_append_left _ (show _ ∈ my_203_2 from List.mem_of_getElem? (i := 34) rfl))))
theorem cd_203_301 : mt_cd 203 301 = some (.iconst 3) := mt_cd_of (q := (301, .iconst 3, 1)) mq_203 ci_203 (List.mem_append_right _ (List.mem_append_right _ (List.mem_append_left _ (show _ ∈ my_203_2 from List.mem_of_getElem? (i := 35) rfl))))
theorem cd_203_302 : mt_cd 203 302 = some (.iadd) := mt_cd_of (q := (302, .iadd, 1)) mq_203 ci_203 (List.mem_append_right _ (List.mem_append_right _ (List.mem_append_left _ (show _ ∈ my_203_2 from List.mem_of_getElem? (i := 36) rfl))))
theorem cd_203_303 : mt_cd 203 303 = some (.iaload) := mt_cd_of (q := (303, .iaload, 1)) mq_203 ci_203 (List.mem_append_right _ (List.mem_append_right _ (List.mem_append_left _ (show _ ∈ my_203_2 from List.mem_of_getElem? (i := 37) rfl))))
theorem cd_203_304 : mt_cd 203 304 = some (.i2l) := mt_cd_of (q := (304, .i2l, 1)) mq_203 ci_203 (List.mem_append_right _ (List.mem_append_right _ (List.mem_append_left _ (show _ ∈ my_203_2 from List.mem_of_getElem? (i := 38) rfl))))
theorem cd_203_305 : mt_cd 203 305 = some (.bipush 32) := mt_cd_of (q := (305, .bipush 32, 2)) mq_203 ci_203 (List.mem_append_right _ (List.mem_append_right _ (List.mem_append_left _ (show _ ∈ my_203_2 from List.mem_of_getElem? (i := 39) rfl))))
theorem cd_203_307 : mt_cd 203 307 = some (.lshl) := mt_cd_of (q := (307, .lshl, 1)) mq_203 ci_203 (List.mem_append_right _ (List.mem_append_right _ (List.mem_append_left _ (show _ ∈ my_203_2 from List.mem_of_getElem? (i := 40) rfl))))
theorem cd_203_308 : mt_cd 203 308 = some (.aload_n 0) := mt_cd_of (q := (308, .aload_n 0, 1)) mq_203 ci_203 (List.mem_append_right _ (List.mem_append_right _ (List.mem_append_left _ (show _ ∈ my_203_2 from List.mem_of_getElem? (i := 41) rfl))))
theorem cd_203_309 : mt_cd 203 309 = some (.iload 4) := mt_cd_of (q := (309, .iload 4, 2)) mq_203 ci_203 (List.mem_append_right _ (List.mem_append_right _ (List.mem_append_left _ (show _ ∈ my_203_2 from List.mem_of_getElem? (i := 42) rfl))))
theorem cd_203_311 : mt_cd 203 311 = some (.iconst 4) := mt_cd_of (q := (311, .iconst 4, 1)) mq_203 ci_203 (List.mem_append_right _ (List.mem_append_right _ (List.mem_append_left _ (show _ ∈ my_203_2 from List.mem_of_getElem? (i := 43) rfl))))
theorem cd_203_312 : mt_cd 203 312 = some (.iadd) := mt_cd_of (q := (312, .iadd, 1)) mq_203 ci_203 (List.mem_append_right _ (List.mem_append_right _ (List.mem_append_left _ (show _ ∈ my_203_2 from List.mem_of_getElem? (i := 44) rfl))))
theorem cd_203_313 : mt_cd 203 313 = some (.iaload) := mt_cd_of (q := (313, .iaload, 1)) mq_203 ci_203 (List.mem_append_right _ (List.mem_append_right _ (List.mem_append_left _ (show _ ∈ my_203_2 from List.mem_of_getElem? (i := 45) rfl))))
theorem cd_203_314 : mt_cd 203 314 = some (.i2l) := mt_cd_of (q := (314, .i2l, 1)) mq_203 ci_203 (List.mem_append_right _ (List.mem_append_right _ (List.mem_append_left _ (show _ ∈ my_203_2 from List.mem_of_getElem? (i := 46) rfl))))
theorem cd_203_315 : mt_cd 203 315 = some (.ldc2_w 86) := mt_cd_of (q := (315, .ldc2_w 86, 3)) mq_203 ci_203 (List.mem_append_right _ (List.mem_append_right _ (List.mem_append_left _ (show _ ∈ my_203_2 from List.mem_of_getElem? (i := 47) rfl))))
theorem cd_203_318 : mt_cd 203 318 = some (.land) := mt_cd_of (q := (318, .land, 1)) mq_203 ci_203 (List.mem_append_right _ (List.mem_append_right _ (List.mem_append_left _ (show _ ∈ my_203_2 from List.mem_of_getElem? (i := 48) rfl))))
theorem cd_203_319 : mt_cd 203 319 = some (.lor) := mt_cd_of (q := (319, .lor, 1)) mq_203 ci_203 (List.mem_append_right _ (List.mem_append_right _ (List.mem_append_left _ (show _ ∈ my_203_2 from List.mem_of_getElem? (i := 49) rfl))))
theorem cd_203_320 : mt_cd 203 320 = some (.aload_n 3) := mt_cd_of (q := (320, .aload_n 3, 1)) mq_203 ci_203 (List.mem_append_right _ (List.mem_append_right _ (List.mem_append_left _ (show _ ∈ my_203_2 from List.mem_of_getElem? (i := 50) rfl))))
theorem cd_203_321 : mt_cd 203 321 = some (.invokestatic 88) := mt_cd_of (q := (321, .invokestatic 88, 3)) mq_203 ci_203 (List.mem_append_right _ (List.mem_append_right _ (List.mem_append_left _ (show _ ∈ my_203_2 from List.mem_of_getElem? (i := 51) rfl))))
theorem cd_203_324 : mt_cd 203 324 = some (.istore 5) := mt_cd_of (q := (324, .istore 5, 2)) mq_203 ci_203 (List.mem_append_right _ (List.mem_append_right _ (List.mem_append_left _ (show _ ∈ my_203_2 from List.mem_of_getElem? (i := 52) rfl))))
theorem cd_203_326 : mt_cd 203 326 = some (.aload_n 2) := mt_cd_of (q := (326, .aload_n 2, 1)) mq_203 ci_203 (List.mem_append_right _ (List.mem_append_right _ (List.mem_append_left _ (show _ ∈ my_203_2 from List.mem_of_getElem? (i := 53) rfl))))
theorem cd_203_327 : mt_cd 203 327 = some (.aload_n 0) := mt_cd_of (q := (327, .aload_n 0, 1)) mq_203 ci_203 (List.mem_append_right _ (List.mem_append_right _ (List.mem_append_left _ (show _ ∈ my_203_2 from List.mem_of_getElem? (i := 54) rfl))))
theorem cd_203_328 : mt_cd 203 328 = some (.iload 4) := mt_cd_of (q := (328, .iload 4, 2)) mq_203 ci_203 (List.mem_append_right _ (List.mem_append_right _ (List.mem_append_left _ (show _ ∈ my_203_2 from List.mem_of_getElem? (i := 55) rfl))))
theorem cd_203_330 : mt_cd 203 330 = some (.iconst 1) := mt_cd_of (q := (330, .iconst 1, 1)) mq_203 ci_203 (List.mem_append_right _ (List.mem_append_right _ (List.mem_append_left _ (show _ ∈ my_203_2 from List.mem_of_getElem? (i := 56) rfl))))
theorem cd_203_331 : mt_cd 203 331 = some (.iadd) := mt_cd_of (q := (331, .iadd, 1)) mq_203 ci_203 (List.mem_append_right _ (List.mem_append_right _ (List.mem_append_left _ (show _ ∈ my_203_2 from List.mem_of_getElem? (i := 57) rfl))))
theorem cd_203_332 : mt_cd 203 332 = some (.iaload) := mt_cd_of (q := (332, .iaload, 1)) mq_203 ci_203 (List.mem_append_right _ (List.mem_append_right _ (List.mem_append_left _ (show _ ∈ my_203_2 from List.mem_of_getElem? (i := 58) rfl))))
theorem cd_203_333 : mt_cd 203 333 = some (.aload_n 0) := mt_cd_of (q := (333, .aload_n 0, 1)) mq_203 ci_203 (List.mem_append_right _ (List.mem_append_right _ (List.mem_append_left _ (show _ ∈ my_203_2 from List.mem_of_getElem? (i := 59) rfl))))
theorem cd_203_334 : mt_cd 203 334 = some (.iload 4) := mt_cd_of (q := (334, .iload 4, 2)) mq_203 ci_203 (List.mem_append_right _ (List.mem_append_right _ (List.mem_append_right _ (List.mem_append_left _ (show _ ∈ my_203_3 from List.mem_of_getElem? (i := 0) rfl)))))
theorem cd_203_336 : mt_cd 203 336 = some (.iconst 2) := mt_cd_of (q := (336, .iconst 2, 1)) mq_203 ci_203 (List.mem_append_right _ (List.mem_append_right _ (List.mem_append_right _ (List.mem_append_left _ (show _ ∈ my_203_3 from List.mem_of_getElem? (i := 1) rfl)))))
theorem cd_203_337 : mt_cd 203 337 = some (.iadd) := mt_cd_of (q := (337, .iadd, 1)) mq_203 ci_203 (List.mem_append_right _ (List.mem_append_right _ (List.mem_append_right _ (List.mem_append_left _ (show _ ∈ my_203_3 from List.mem_of_getElem? (i := 2) rfl)))))
theorem cd_203_338 : mt_cd 203 338 = some (.iaload) := mt_cd_of (q := (338, .iaload, 1)) mq_203 ci_203 (List.mem_append_right _ (List.mem_append_right _ (List.mem_append_right _ (List.mem_append_left _ (show _ ∈ my_203_3 from List.mem_of_getElem? (i := 3) rfl)))))
theorem cd_203_339 : mt_cd 203 339 = some (.aload_n 0) := mt_cd_of (q := (339, .aload_n 0, 1)) mq_203 ci_203 (List.mem_append_right _ (List.mem_append_right _ (List.mem_append_right _ (List.mem_append_left _ (show _ ∈ my_203_3 from List.mem_of_getElem? (i := 4) rfl)))))
theorem cd_203_340 : mt_cd 203 340 = some (.iload 4) := mt_cd_of (q := (340, .iload 4, 2)) mq_203 ci_203 (List.mem_append_right _ (List.mem_append_right _ (List.mem_append_right _ (List.mem_append_left _ (show _ ∈ my_203_3 from List.mem_of_getElem? (i := 5) rfl)))))
theorem cd_203_342 : mt_cd 203 342 = some (.iconst 3) := mt_cd_of (q := (342, .iconst 3, 1)) mq_203 ci_203 (List.mem_append_right _ (List.mem_append_right _ (List.mem_append_right _ (List.mem_append_left _ (show _ ∈ my_203_3 from List.mem_of_getElem? (i := 6) rfl)))))
theorem cd_203_343 : mt_cd 203 343 = some (.iadd) := mt_cd_of (q := (343, .iadd, 1)) mq_203 ci_203 (List.mem_append_right _ (List.mem_append_right _ (List.mem_append_right _ (List.mem_append_left _ (show _ ∈ my_203_3 from List.mem_of_getElem? (i := 7) rfl)))))
theorem cd_203_344 : mt_cd 203 344 = some (.iaload) := mt_cd_of (q := (344, .iaload, 1)) mq_203 ci_203 (List.mem_append_right _ (List.mem_append_right _ (List.mem_append_right _ (List.mem_append_left _ (show _ ∈ my_203_3 from List.mem_of_getElem? (i := 8) rfl)))))
theorem cd_203_345 : mt_cd 203 345 = some (.i2l) := mt_cd_of (q := (345, .i2l, 1)) mq_203 ci_203 (List.mem_append_right _ (List.mem_append_right _ (List.mem_append_right _ (List.mem_append_left _ (show _ ∈ my_203_3 from List.mem_of_getElem? (i := 9) rfl)))))
theorem cd_203_346 : mt_cd 203 346 = some (.bipush 32) := mt_cd_of (q := (346, .bipush 32, 2)) mq_203 ci_203 (List.mem_append_right _ (List.mem_append_right _ (List.mem_append_right _ (List.mem_append_left _ (show _ ∈ my_203_3 from List.mem_of_getElem? (i := 10) rfl)))))
theorem cd_203_348 : mt_cd 203 348 = some (.lshl) := mt_cd_of (q := (348, .lshl, 1)) mq_203 ci_203 (List.mem_append_right _ (List.mem_append_right _ (List.mem_append_right _ (List.mem_append_left _ (show _ ∈ my_203_3 from List.mem_of_getElem? (i := 11) rfl)))))
theorem cd_203_349 : mt_cd 203 349 = some (.aload_n 0) := mt_cd_of (q := (349, .aload_n 0, 1)) mq_203 ci_203 (List.mem_append_right _ (List.mem_append_right _ (List.mem_append_right _ (List.mem_append_left _ (show _ ∈ my_203_3 from List.mem_of_getElem? (i := 12) rfl)))))
theorem cd_203_350 : mt_cd 203 350 = some (.iload 4) := mt_cd_of (q := (350, .iload 4, 2)) mq_203 ci_203 (List.mem_append_right _ (List.mem_append_right _ (List.mem_append_right _ (List.mem_append_left _ (show _ ∈ my_203_3 from List.mem_of_getElem? (i := 13) rfl)))))
theorem cd_203_352 : mt_cd 203 352 = some (.iconst 4) := mt_cd_of (q := (352, .iconst 4, 1)) mq_203 ci_203 (List.mem_append_right _ (List.mem_append_right _ (List.mem_append_right _ (List.mem_append_left _ (show _ ∈ my_203_3 from List.mem_of_getElem? (i := 14) rfl)))))
theorem cd_203_353 : mt_cd 203 353 = some (.iadd) := mt_cd_of (q := (353, .iadd, 1)) mq_203 ci_203 (List.mem_append_right _ (List.mem_append_right _ (List.mem_append_right _ (List.mem_append_left _ (show _ ∈ my_203_3 from List.mem_of_getElem? (i := 15) rfl)))))
theorem cd_203_354 : mt_cd 203 354 = some (.iaload) := mt_cd_of (q := (354, .iaload, 1)) mq_203 ci_203 (List.mem_append_right _ (List.mem_append_right _ (List.mem_append_right _ (List.mem_append_left _ (show _ ∈ my_203_3 from List.mem_of_getElem? (i := 16) rfl)))))
theorem cd_203_355 : mt_cd 203 355 = some (.i2l) := mt_cd_of (q := (355, .i2l, 1)) mq_203 ci_203 (List.mem_append_right _ (List.mem_append_right _ (List.mem_append_right _ (List.mem_append_left _ (show _ ∈ my_203_3 from List.mem_of_getElem? (i := 17) rfl)))))
theorem cd_203_356 : mt_cd 203 356 = some (.ldc2_w 86) := mt_cd_of (q := (356, .ldc2_w 86, 3)) mq_203 ci_203 (List.mem_append_right _ (List.mem_append_right _ (List.mem_append_right _ (List.mem_append_left _ (show _ ∈ my_203_3 from List.mem_of_getElem? (i := 18) rfl)))))
theorem cd_203_359 : mt_cd 203 359 = some (.land) := mt_cd_of (q := (359, .land, 1)) mq_203 ci_203 (List.mem_append_right _ (List.mem_append_right _ (List.mem_append_right _ (List.mem_append_left _ (show _ ∈ my_203_3 from List.mem_of_getElem? (i := 19) rfl)))))
theorem cd_203_360 : mt_cd 203 360 = some (.lor) := mt_cd_of (q := (360, .lor, 1)) mq_203 ci_203 (List.mem_append_right _ (List.mem_append_right _ (List.mem_append_right _ (List.mem_append_left _ (show _ ∈ my_203_3 from List.mem_of_getElem? (i := 20) rfl)))))
theorem cd_203_361 : mt_cd 203 361 = some (.invokevirtual 91) := mt_cd_of (q := (361, .invokevirtual 91, 3)) mq_203 ci_203 (List.mem_append_right _ (List.mem_append_right _ (List.mem_append_right _ (List.mem_append_left _ (show _ ∈ my_203_3 from List.mem_of_getElem? (i := 21) rfl)))))
theorem cd_203_364 : mt_cd 203 364 = some (.lstore 6) := mt_cd_of (q := (364, .lstore 6, 2)) mq_203 ci_203 (List.mem_append_right _ (List.mem_append_right _ (List.mem_append_right _ (List.mem_append_left _ (show _ ∈ my_203_3 from List.mem_of_getElem? (i := 22) rfl)))))
theorem cd_203_366 : mt_cd 203 366 = some (.aload_n 2) := mt_cd_of (q := (366, .aload_n 2, 1)) mq_203 ci_203 (List.mem_append_right _ (List.mem_append_right _ (List.mem_append_right _ (List.mem_append_left _ (show _ ∈ my_203_3 from List.mem_of_getElem? (i := 23) rfl)))))
theorem cd_203_367 : mt_cd 203 367 = some (.invokevirtual 75) := mt_cd_of (q := (367, .invokevirtual 75, 3)) mq_203 ci_203 (List.mem_append_right _ (List.mem_append_right _ (List.mem_append_right _ (List.mem_append_left _ (show _ ∈ my_203_3 from List.mem_of_getElem? (i := 24) rfl)))))
theorem cd_203_370 : mt_cd 203 370 = some (.iload 5) := mt_cd_of (q := (370, .iload 5, 2)) mq_203 ci_203 (List.mem_append_right _ (List.mem_append_right _ (List.mem_append_right _ (List.mem_append_left _ (show _ ∈ my_203_3 from List.mem_of_getElem? (i := 25) rfl)))))
theorem cd_203_372 : mt_cd 203 372 = some (.if_icmp .eq 5) := mt_cd_of (q := (372, .if_icmp .eq 5, 3)) mq_203 ci_203 (List.mem_append_right _ (List.mem_append_right _ (List.mem_append_right _ (List.mem_append_left _ (show _ ∈ my_203_3 from List.mem_of_getElem? (i := 26) rfl)))))
theorem cd_203_375 : mt_cd 203 375 = some (.iconst 0) := mt_cd_of (q := (375, .iconst 0, 1)) mq_203 ci_203 (List.mem_append_right _ (List.mem_append_right _ (List.mem_append_right _ (List.mem_append_left _ (show _ ∈ my_203_3 from List.mem_of_getElem? (i := 27) rfl)))))
theorem cd_203_376 : mt_cd 203 376 = some (.ireturn) := mt_cd_of (q := (376, .ireturn, 1)) mq_203 ci_203 (List.mem_append_right _ (List.mem_append_right _ (List.mem_append_right _ (List.mem_append_left _ (show _ ∈ my_203_3 from List.mem_of_getElem? (i := 28) rfl)))))
theorem cd_203_377 : mt_cd 203 377 = some (.iload 5) := mt_cd_of (q := (377, .iload 5, 2)) mq_203 ci_203 (List.mem_append_right _ (List.mem_append_right _ (List.mem_append_right _ (List.mem_append_left _ (show _ ∈ my_203_3 from List.mem_of_getElem? (i := 29) rfl)))))
theorem cd_203_379 : mt_cd 203 379 = some (.ifCond .ne 14) := mt_cd_of (q := (379, .ifCond .ne 14, 3)) mq_203 ci_203 (List.mem_append_right _ (List.mem_append_right _ (List.mem_append_right _ (List.mem_append_left _ (show _ ∈ my_203_3 from List.mem_of_getElem? (i := 30) rfl)))))
theorem cd_203_382 : mt_cd 203 382 = some (.aload_n 3) := mt_cd_of (q := (382, .aload_n 3, 1)) mq_203 ci_203 (List.mem_append_right _ (List.mem_append_right _ (List.mem_append_right _ (List.mem_append_left _ (show _ ∈ my_203_3 from List.mem_of_getElem? (i := 31) rfl)))))
theorem cd_203_383 : mt_cd 203 383 = some (.iconst 0) := mt_cd_of (q := (383, .iconst 0, 1)) mq_203 ci_203 (List.mem_append_right _ (List.mem_append_right _ (List.mem_append_right _ (List.mem_append_left _ (show _ ∈ my_203_3 from List.mem_of_getElem? (i := 32) rfl)))))
theorem cd_203_384 : mt_cd 203 384 = some (.laload) := mt_cd_of (q := (384, .laload, 1)) mq_203 ci_203 (List.mem_append_right _ (List.mem_append_right _ (List.mem_append_right _ (List.mem_append_left _ (show _ ∈ my_203_3 from List.mem_of_getElem? (i := 33) rfl)))))
theorem cd_203_385 : mt_cd 203 385 = some (.lload 6) := mt_cd_of (q := (385, .lload 6, 2)) mq_203 ci_203 (List.mem_append_right _ (List.mem_append_right _ (List.mem_append_right _ (List.mem_append_left _ (show _ ∈ my_203_3 from List.mem_of_getElem? (i := 34) rfl)))))
theorem cd_203_387 : mt_cd 203 387 = some (.lcmp) := mt_cd_of (q := (387, .lcmp, 1)) mq_203 ci_203 (List.mem_append_right _ (List.mem_append_right _ (List.mem_append_right _ (List.mem_append_left _ (show _ ∈ my_203_3 from List.mem_of_getElem? (i := 35) rfl)))))
theorem cd_203_388 : mt_cd 203 388 = some (.ifCond .eq 5) := mt_cd_of (q := (388, .ifCond .eq 5, 3)) mq_203 ci_203 (List.mem_append_right _ (List.mem_append_right _ (List.mem_append_right _ (List.mem_append_left _ (show _ ∈ my_203_3 from List.mem_of_getElem? (i := 36) rfl)))))
theorem cd_203_391 : mt_cd 203 391 = some (.iconst 0) := mt_cd_of (q := (391, .iconst 0, 1)) mq_203 ci_203 (List.mem_append_right _ (List.mem_append_right _ (List.mem_append_right _ (List.mem_append_left _ (show _ ∈ my_203_3 from List.mem_of_getElem? (i := 37) rfl)))))
theorem cd_203_392 : mt_cd 203 392 = some (.ireturn) := mt_cd_of (q := (392, .ireturn, 1)) mq_203 ci_203 (List.mem_append_right _ (List.mem_append_right _ (List.mem_append_right _ (List.mem_append_left _ (show _ ∈ my_203_3 from List.mem_of_getElem? (i := 38) rfl)))))
theorem cd_203_393 : mt_cd 203 393 = some (.goto 772) := mt_cd_of (q := (393, .goto 772, 3)) mq_203 ci_203 (List.mem_append_right _ (List.mem_append_right _ (List.mem_append_right _ (List.mem_append_left _ (show _ ∈ my_203_3 from List.mem_of_getElem? (i := 39) rfl)))))
theorem cd_203_396 : mt_cd 203 396 = some (.aload_n 1) := mt_cd_of (q := (396, .aload_n 1, 1)) mq_203 ci_203 (List.mem_append_right _ (List.mem_append_right _ (List.mem_append_right _ (List.mem_append_left _ (show _ ∈ my_203_3 from List.mem_of_getElem? (i := 40) rfl)))))
theorem cd_203_397 : mt_cd 203 397 = some (.aload_n 0) := mt_cd_of (q := (397, .aload_n 0, 1)) mq_203 ci_203 (List.mem_append_right _ (List.mem_append_right _ (List.mem_append_right _ (List.mem_append_left _ (show _ ∈ my_203_3 from List.mem_of_getElem? (i := 41) rfl)))))
theorem cd_203_398 : mt_cd 203 398 = some (.iload 4) := mt_cd_of (q := (398, .iload 4, 2)) mq_203 ci_203 (List.mem_append_right _ (List.mem_append_right _ (List.mem_append_right _ (List.mem_append_left _ (show _ ∈ my_203_3 from List.mem_of_getElem? (i := 42) rfl)))))
theorem cd_203_400 : mt_cd 203 400 = some (.iconst 1) := mt_cd_of (q := (400, .iconst 1, 1)) mq_203 ci_203 (List.mem_append_right _ (List.mem_append_right _ (List.mem_append_right _ (List.mem_append_left _ (show _ ∈ my_203_3 from List.mem_of_getElem? (i := 43) rfl)))))
theorem cd_203_401 : mt_cd 203 401 = some (.iadd) := mt_cd_of (q := (401, .iadd, 1)) mq_203 ci_203 (List.mem_append_right _ (List.mem_append_right _ (List.mem_append_right _ (List.mem_append_left _ (show _ ∈ my_203_3 from List.mem_of_getElem? (i := 44) rfl)))))
theorem cd_203_402 : mt_cd 203 402 = some (.iaload) := mt_cd_of (q := (402, .iaload, 1)) mq_203 ci_203 (List.mem_append_right _ (List.mem_append_right _ (List.mem_append_right _ (List.mem_append_left _ (show _ ∈ my_203_3 from List.mem_of_getElem? (i := 45) rfl)))))
theorem cd_203_403 : mt_cd 203 403 = some (.aload_n 0) := mt_cd_of (q := (403, .aload_n 0, 1)) mq_203 ci_203 (List.mem_append_right _ (List.mem_append_right _ (List.mem_append_right _ (List.mem_append_left _ (show _ ∈ my_203_3 from List.mem_of_getElem? (i := 46) rfl)))))
theorem cd_203_404 : mt_cd 203 404 = some (.iload 4) := mt_cd_of (q := (404, .iload 4, 2)) mq_203 ci_203 (List.mem_append_right _ (List.mem_append_right _ (List.mem_append_right _ (List.mem_append_left _ (show _ ∈ my_203_3 from List.mem_of_getElem? (i := 47) rfl)))))
theorem cd_203_406 : mt_cd 203 406 = some (.iconst 2) := mt_cd_of (q := (406, .iconst 2, 1)) mq_203 ci_203 (List.mem_append_right _ (List.mem_append_right _ (List.mem_append_right _ (List.mem_append_left _ (show _ ∈ my_203_3 from List.mem_of_getElem? (i := 48) rfl)))))
theorem cd_203_407 : mt_cd 203 407 = some (.iadd) := mt_cd_of (q := (407, .iadd, 1)) mq_203 ci_203 (List.mem_append_right _ (List.mem_append_right _ (List.mem_append_right _ (List.mem_append_left _ (show _ ∈ my_203_3 from List.mem_of_getElem? (i := 49) rfl)))))
theorem cd_203_408 : mt_cd 203 408 = some (.iaload) := mt_cd_of (q := (408, .iaload, 1)) mq_203 ci_203 (List.mem_append_right _ (List.mem_append_right _ (List.mem_append_right _ (List.mem_append_left _ (show _ ∈ my_203_3 from List.mem_of_getElem? (i := 50) rfl)))))
theorem cd_203_409 : mt_cd 203 409 = some (.aload_n 0) := mt_cd_of (q := (409, .aload_n 0, 1)) mq_203 ci_203 (List.mem_append_right _ (List.mem_append_right _ (List.mem_append_right _ (List.mem_append_left _ (show _ ∈ my_203_3 from List.mem_of_getElem? (i := 51) rfl)))))
theorem cd_203_410 : mt_cd 203 410 = some (.iload 4) := mt_cd_of (q := (410, .iload 4, 2)) mq_203 ci_203 (List.mem_append_right _ (List.mem_append_right _ (List.mem_append_right _ (List.mem_append_left _ (show _ ∈ my_203_3 from List.mem_of_getElem? (i := 52) rfl)))))
theorem cd_203_412 : mt_cd 203 412 = some (.iconst 3) := mt_cd_of (q := (412, .iconst 3, 1)) mq_203 ci_203 (List.mem_append_right _ (List.mem_append_right _ (List.mem_append_right _ (List.mem_append_left _ (show _ ∈ my_203_3 from List.mem_of_getElem? (i := 53) rfl)))))
theorem cd_203_413 : mt_cd 203 413 = some (.iadd) := mt_cd_of (q := (413, .iadd, 1)) mq_203 ci_203 (List.mem_append_right _ (List.mem_append_right _ (List.mem_append_right _ (List.mem_append_left _ (show _ ∈ my_203_3 from List.mem_of_getElem? (i := 54) rfl)))))
theorem cd_203_414 : mt_cd 203 414 = some (.iaload) := mt_cd_of (q := (414, .iaload, 1)) mq_203 ci_203 (List.mem_append_right _ (List.mem_append_right _ (List.mem_append_right _ (List.mem_append_left _ (show _ ∈ my_203_3 from List.mem_of_getElem? (i := 55) rfl)))))
theorem cd_203_415 : mt_cd 203 415 = some (.aload_n 0) := mt_cd_of (q := (415, .aload_n 0, 1)) mq_203 ci_203 (List.mem_append_right _ (List.mem_append_right _ (List.mem_append_right _ (List.mem_append_left _ (show _ ∈ my_203_3 from List.mem_of_getElem? (i := 56) rfl)))))
theorem cd_203_416 : mt_cd 203 416 = some (.iload 4) := mt_cd_of (q := (416, .iload 4, 2)) mq_203 ci_203 (List.mem_append_right _ (List.mem_append_right _ (List.mem_append_right _ (List.mem_append_left _ (show _ ∈ my_203_3 from List.mem_of_getElem? (i := 57) rfl)))))
theorem cd_203_418 : mt_cd 203 418 = some (.iconst 4) := mt_cd_of (q := (418, .iconst 4, 1)) mq_203 ci_203 (List.mem_append_right _ (List.mem_append_right _ (List.mem_append_right _ (List.mem_append_left _ (show _ ∈ my_203_3 from List.mem_of_getElem? (i := 58) rfl)))))
theorem cd_203_419 : mt_cd 203 419 = some (.iadd) := mt_cd_of (q := (419, .iadd, 1)) mq_203 ci_203 (List.mem_append_right _ (List.mem_append_right _ (List.mem_append_right _ (List.mem_append_left _ (show _ ∈ my_203_3 from List.mem_of_getElem? (i := 59) rfl)))))
theorem cd_203_420 : mt_cd 203 420 = some (.iaload) := mt_cd_of (q := (420, .iaload, 1)) mq_203 ci_203 (List.mem_append_right _ (List.mem_append_right _ (List.mem_append_right _ (List.mem_append_right _ (List.mem_append_left _ (show _ ∈ my_203_4 from List.mem_of_getElem? (i := 0) rfl))))))
theorem cd_203_421 : mt_cd 203 421 = some (.i2l) := mt_cd_of (q := (421, .i2l, 1)) mq_203 ci_203 (List.mem_append_right _ (List.mem_append_right _ (List.mem_append_right _ (List.mem_append_right _ (List.mem_append_left _ (show _ ∈ my_203_4 from List.mem_of_getElem? (i := 1) rfl))))))
theorem cd_203_422 : mt_cd 203 422 = some (.bipush 32) := mt_cd_of (q := (422, .bipush 32, 2)) mq_203 ci_203 (List.mem_append_right _ (List.mem_append_right _ (List.mem_append_right _ (List.mem_append_right _ (List.mem_append_left _ (show _ ∈ my_203_4 from List.mem_of_getElem? (i := 2) rfl))))))
theorem cd_203_424 : mt_cd 203 424 = some (.lshl) := mt_cd_of (q := (424, .lshl, 1)) mq_203 ci_203 (List.mem_append_right _ (List.mem_append_right _ (List.mem_append_right _ (List.mem_append_right _ (List.mem_append_left _ (show _ ∈ my_203_4 from List.mem_of_getElem? (i := 3) rfl))))))
theorem cd_203_425 : mt_cd 203 425 = some (.aload_n 0) := mt_cd_of (q := (425, .aload_n 0, 1)) mq_203 ci_203 (List.mem_append_right _ (List.mem_append_right _ (List.mem_append_right _ (List.mem_append_right _ (List.mem_append_left _ (show _ ∈ my_203_4 from List.mem_of_getElem? (i := 4) rfl))))))
theorem cd_203_426 : mt_cd 203 426 = some (.iload 4) := mt_cd_of (q := (426, .iload 4, 2)) mq_203 ci_203 (List.mem_append_right _ (List.mem_append_right _ (List.mem_append_right _ (List.mem_append_right _ (List.mem_append_left _ (show _ ∈ my_203_4 from List.mem_of_getElem? (i := 5) rfl))))))
theorem cd_203_428 : mt_cd 203 428 = some (.iconst 5) := mt_cd_of (q := (428, .iconst 5, 1)) mq_203 ci_203 (List.mem_append_right _ (List.mem_append_right _ (List.mem_append_right _ (List.mem_append_right _ (List.mem_append_left _ (show _ ∈ my_203_4 from List.mem_of_getElem? (i := 6) rfl))))))
theorem cd_203_429 : mt_cd 203 429 = some (.iadd) := mt_cd_of (q := (429, .iadd, 1)) mq_203 ci_203 (List.mem_append_right _ (List.mem_append_right _ (List.mem_append_right _ (List.mem_append_right _ (List.mem_append_left _ (show _ ∈ my_203_4 from List.mem_of_getElem? (i := 7) rfl))))))
theorem cd_203_430 : mt_cd 203 430 = some (.iaload) := mt_cd_of (q := (430, .iaload, 1)) mq_203 ci_203 (List.mem_append_right _ (List.mem_append_right _ (List.mem_append_right _ (List.mem_append_right _ (List.mem_append_left _ (show _ ∈ my_203_4 from List.mem_of_getElem? (i := 8) rfl))))))
theorem cd_203_431 : mt_cd 203 431 = some (.i2l) := mt_cd_of (q := (431, .i2l, 1)) mq_203 ci_203 (List.mem_append_right _ (List.mem_append_right _ (List.mem_append_right _ (List.mem_append_right _ (List.mem_append_left _ (show _ ∈ my_203_4 from List.mem_of_getElem? (i := 9) rfl))))))
theorem cd_203_432 : mt_cd 203 432 = some (.ldc2_w 86) := mt_cd_of (q := (432, .ldc2_w 86, 3)) mq_203 ci_203 (List.mem_append_right _ (List.mem_append_right _ (List.mem_append_right _ (List.mem_append_right _ (List.mem_append_left _ (show _ ∈ my_203_4 from List.mem_of_getElem? (i := 10) rfl))))))
theorem cd_203_435 : mt_cd 203 435 = some (.land) := mt_cd_of (q := (435, .land, 1)) mq_203 ci_203 (List.mem_append_right _ (List.mem_append_right _ (List.mem_append_right _ (List.mem_append_right _ (List.mem_append_left _ (show _ ∈ my_203_4 from List.mem_of_getElem? (i := 11) rfl))))))
theorem cd_203_436 : mt_cd 203 436 = some (.lor) := mt_cd_of (q := (436, .lor, 1)) mq_203 ci_203 (List.mem_append_right _ (List.mem_append_right _ (List.mem_append_right _ (List.mem_append_right _ (List.mem_append_left _ (show _ ∈ my_203_4 from List.mem_of_getElem? (i := 12) rfl))))))
theorem cd_203_437 : mt_cd 203 437 = some (.aload_n 3) := mt_cd_of (q := (437, .aload_n 3, 1)) mq_203 ci_203 (List.mem_append_right _ (List.mem_append_right _ (List.mem_append_right _ (List.mem_append_right _ (List.mem_append_left _ (show _ ∈ my_203_4 from List.mem_of_getElem? (i := 13) rfl))))))
theorem cd_203_438 : mt_cd 203 438 = some (.invokestatic 92) := mt_cd_of (q := (438, .invokestatic 92, 3)) mq_203 ci_203 (List.mem_append_right _ (List.mem_append_right _ (List.mem_append_right _ (List.mem_append_right _ (List.mem_append_left _ (show _ ∈ my_203_4 from List.mem_of_getElem? (i := 14) rfl))))))
theorem cd_203_441 : mt_cd 203 441 = some (.istore 5) := mt_cd_of (q := (441, .istore 5, 2)) mq_203 ci_203 (List.mem_append_right _ (List.mem_append_right _ (List.mem_append_right _ (List.mem_append_right _ (List.mem_append_left _ (show _ ∈ my_203_4 from List.mem_of_getElem? (i := 15) rfl))))))
theorem cd_203_443 : mt_cd 203 443 = some (.aload_n 2) := mt_cd_of (q := (443, .aload_n 2, 1)) mq_203 ci_203 (List.mem_append_right _ (List.mem_append_right _ (List.mem_append_right _ (List.mem_append_right _ (List.mem_append_left _ (show _ ∈ my_203_4 from List.mem_of_getElem? (i := 16) rfl))))))
theorem cd_203_444 : mt_cd 203 444 = some (.aload_n 0) := mt_cd_of (q := (444, .aload_n 0, 1)) mq_203 ci_203 (List.mem_append_right _ (List.mem_append_right _ (List.mem_append_right _ (List.mem_append_right _ (List.mem_append_left _ (show _ ∈ my_203_4 from List.mem_of_getElem? (i := 17) rfl))))))
theorem cd_203_445 : mt_cd 203 445 = some (.iload 4) := mt_cd_of (q := (445, .iload 4, 2)) mq_203 ci_203 (List.mem_append_right _ (List.mem_append_right _ (List.mem_append_right _ (List.mem_append_right _ (List.mem_append_left _ (show _ ∈ my_203_4 from List.mem_of_getElem? (i := 18) rfl))))))
theorem cd_203_447 : mt_cd 203 447 = some (.iconst 1) := mt_cd_of (q := (447, .iconst 1, 1)) mq_203 ci_203 (List.mem_append_right _ (List.mem_append_right _ (List.mem_append_right _ (List.mem_append_right _ (List.mem_append_left _ (show _ ∈ my_203_4 from List.mem_of_getElem? (i := 19) rfl))))))
theorem cd_203_448 : mt_cd 203 448 = some (.iadd) := mt_cd_of (q := (448, .iadd, 1)) mq_203 ci_203 (List.mem_append_right _ (List.mem_append_right _ (List.mem_append_right _ (List.mem_append_right _ (List.mem_append_left _ (show _ ∈ my_203_4 from List.mem_of_getElem? (i := 20) rfl))))))
theorem cd_203_449 : mt_cd 203 449 = some (.iaload) := mt_cd_of (q := (449, .iaload, 1)) mq_203 ci_203 (List.mem_append_right _ (List.mem_append_right _ (List.mem_append_right _ (List.mem_append_right _ (List.mem_append_left _ (show _ ∈ my_203_4 from List.mem_of_getElem? (i := 21) rfl))))))
theorem cd_203_450 : mt_cd 203 450 = some (.aload_n 0) := mt_cd_of (q := (450, .aload_n 0, 1)) mq_203 ci_203 (List.mem_append_right _ (List.mem_append_right _ (List.mem_append_right _ (List.mem_append_right _ (List.mem_append_left _ (show _ ∈ my_203_4 from List.mem_of_getElem? (i := 22) rfl))))))
theorem cd_203_451 : mt_cd 203 451 = some (.iload 4) := mt_cd_of (q := (451, .iload 4, 2)) mq_203 ci_203 (List.mem_append_right _ (List.mem_append_right _ (List.mem_append_right _ (List.mem_append_right _ (List.mem_append_left _ (show _ ∈ my_203_4 from List.mem_of_getElem? (i := 23) rfl))))))
theorem cd_203_453 : mt_cd 203 453 = some (.iconst 2) := mt_cd_of (q := (453, .iconst 2, 1)) mq_203 ci_203 (List.mem_append_right _ (List.mem_append_right _ (List.mem_append_right _ (List.mem_append_right _ (List.mem_append_left _ (show _ ∈ my_203_4 from List.mem_of_getElem? (i := 24) rfl))))))
theorem cd_203_454 : mt_cd 203 454 = some (.iadd) := mt_cd_of (q := (454, .iadd, 1)) mq_203 ci_203 (List.mem_append_right _ (List.mem_append_right _ (List.mem_append_right _ (List.mem_append_right _ (List.mem_append_left _ (show _ ∈ my_203_4 from List.mem_of_getElem? (i := 25) rfl))))))
theorem cd_203_455 : mt_cd 203 455 = some (.iaload) := mt_cd_of (q := (455, .iaload, 1)) mq_203 ci_203 (List.mem_append_right _ (List.mem_append_right _ (List.mem_append_right _ (List.mem_append_right _ (List.mem_append_left _ (show _ ∈ my_203_4 from List.mem_of_getElem? (i := 26) rfl))))))
theorem cd_203_456 : mt_cd 203 456 = some (.aload_n 0) := mt_cd_of (q := (456, .aload_n 0, 1)) mq_203 ci_203 (List.mem_append_right _ (List.mem_append_right _ (List.mem_append_right _ (List.mem_append_right _ (List.mem_append_left _ (show _ ∈ my_203_4 from List.mem_of_getElem? (i := 27) rfl))))))
theorem cd_203_457 : mt_cd 203 457 = some (.iload 4) := mt_cd_of (q := (457, .iload 4, 2)) mq_203 ci_203 (List.mem_append_right _ (List.mem_append_right _ (List.mem_append_right _ (List.mem_append_right _ (List.mem_append_left _ (show _ ∈ my_203_4 from List.mem_of_getElem? (i := 28) rfl))))))
theorem cd_203_459 : mt_cd 203 459 = some (.iconst 3) := mt_cd_of (q := (459, .iconst 3, 1)) mq_203 ci_203 (List.mem_append_right _ (List.mem_append_right _ (List.mem_append_right _ (List.mem_append_right _ (List.mem_append_left _ (show _ ∈ my_203_4 from List.mem_of_getElem? (i := 29) rfl))))))
theorem cd_203_460 : mt_cd 203 460 = some (.iadd) := mt_cd_of (q := (460, .iadd, 1)) mq_203 ci_203 (List.mem_append_right _ (List.mem_append_right _ (List.mem_append_right _ (List.mem_append_right _ (List.mem_append_left _ (show _ ∈ my_203_4 from List.mem_of_getElem? (i := 30) rfl))))))
theorem cd_203_461 : mt_cd 203 461 = some (.iaload) := mt_cd_of (q := (461, .iaload, 1)) mq_203 ci_203 (List.mem_append_right _ (List.mem_append_right _ (List.mem_append_right _ (List.mem_append_right _ (List.mem_append_left _ (show _ ∈ my_203_4 from List.mem_of_getElem? (i := 31) rfl))))))
theorem cd_203_462 : mt_cd 203 462 = some (.aload_n 0) := mt_cd_of (q := (462, .aload_n 0, 1)) mq_203 ci_203 (List.mem_append_right _ (List.mem_append_right _ (List.mem_append_right _ (List.mem_append_right _ (List.mem_append_left _ (show _ ∈ my_203_4 from List.mem_of_getElem? (i := 32) rfl))))))
theorem cd_203_463 : mt_cd 203 463 = some (.iload 4) := mt_cd_of (q := (463, .iload 4, 2)) mq_203 ci_203 (List.mem_append_right _ (List.mem_append_right _ (List.mem_append_right _ (List.mem_append_right _ (List.mem_append_left _ (show _ ∈ my_203_4 from List.mem_of_getElem? (i := 33) rfl))))))
theorem cd_203_465 : mt_cd 203 465 = some (.iconst 4) := mt_cd_of (q := (465, .iconst 4, 1)) mq_203 ci_203 (List.mem_append_right _ (List.mem_append_right _ (List.mem_append_right _ (List.mem_append_right _ (List.mem_append_left _ (show _ ∈ my_203_4 from List.mem_of_getElem? (i := 34) rfl))))))
theorem cd_203_466 : mt_cd 203 466 = some (.iadd) := mt_cd_of (q := (466, .iadd, 1)) mq_203 ci_203 (List.mem_append_right _ (List.mem_append_right _ (List.mem_append_right _ (List.mem_append_right _ (List.mem_append_left _ (show _ ∈ my_203_4 from List.mem_of_getElem? (i := 35) rfl))))))
theorem cd_203_467 : mt_cd 203 467 = some (.iaload) := mt_cd_of (q := (467, .iaload, 1)) mq_203 ci_203 (List.mem_append_right _ (List.mem_append_right _ (List.mem_append_right _ (List.mem_append_right _ (List.mem_append_left _ (show _ ∈ my_203_4 from List.mem_of_getElem? (i := 36) rfl))))))
theorem cd_203_468 : mt_cd 203 468 = some (.i2l) := mt_cd_of (q := (468, .i2l, 1)) mq_203 ci_203 (List.mem_append_right _ (List.mem_append_right _ (List.mem_append_right _ (List.mem_append_right _ (List.mem_append_left _ (show _ ∈ my_203_4 from List.mem_of_getElem? (i := 37) rfl))))))
theorem cd_203_469 : mt_cd 203 469 = some (.bipush 32) := mt_cd_of (q := (469, .bipush 32, 2)) mq_203 ci_203 (List.mem_append_right _ (List.mem_append_right _ (List.mem_append_right _ (List.mem_append_right _ (List.mem_append_left _ (show _ ∈ my_203_4 from List.mem_of_getElem? (i := 38) rfl))))))
theorem cd_203_471 : mt_cd 203 471 = some (.lshl) := mt_cd_of (q := (471, .lshl, 1)) mq_203 ci_203 (List.mem_append_right _ (List.mem_append_right _ (List.mem_append_right _ (List.mem_append_right _ (List.mem_append_left _ (show _ ∈ my_203_4 from List.mem_of_getElem? (i := 39) rfl))))))
theorem cd_203_472 : mt_cd 203 472 = some (.aload_n 0) := mt_cd_of (q := (472, .aload_n 0, 1)) mq_203 ci_203 (List.mem_append_right _ (List.mem_append_right _ (List.mem_append_right _ (List.mem_append_right _ (List.mem_append_left _ (show _ ∈ my_203_4 from List.mem_of_getElem? (i := 40) rfl))))))
theorem cd_203_473 : mt_cd 203 473 = some (.iload 4) := mt_cd_of (q := (473, .iload 4, 2)) mq_203 ci_203 (List.mem_append_right _ (List.mem_append_right _ (List.mem_append_right _ (List.mem_append_right _ (List.mem_append_left _ (show _ ∈ my_203_4 from List.mem_of_getElem? (i := 41) rfl))))))
theorem cd_203_475 : mt_cd 203 475 = some (.iconst 5) := mt_cd_of (q := (475, .iconst 5, 1)) mq_203 ci_203 (List.mem_append_right _ (List.mem_append_right _ (List.mem_append_right _ (List.mem_append_right _ (List.mem_append_left _ (show _ ∈ my_203_4 from List.mem_of_getElem? (i := 42) rfl))))))
theorem cd_203_476 : mt_cd 203 476 = some (.iadd) := mt_cd_of (q := (476, .iadd, 1)) mq_203 ci_203 (List.mem_append_right _ (List.mem_append_right _ (List.mem_append_right _ (List.mem_append_right _ (List.mem_append_left _ (show _ ∈ my_203_4 from List.mem_of_getElem? (i := 43) rfl))))))
theorem cd_203_477 : mt_cd 203 477 = some (.iaload) := mt_cd_of (q := (477, .iaload, 1)) mq_203 ci_203 (List.mem_append_right _ (List.mem_append_right _ (List.mem_append_right _ (List.mem_append_right _ (List.mem_append_left _ (show _ ∈ my_203_4 from List.mem_of_getElem? (i := 44) rfl))))))
theorem cd_203_478 : mt_cd 203 478 = some (.i2l) := mt_cd_of (q := (478, .i2l, 1)) mq_203 ci_203 (List.mem_append_right _ (List.mem_append_right _ (List.mem_append_right _ (List.mem_append_right _ (List.mem_append_left _ (show _ ∈ my_203_4 from List.mem_of_getElem? (i := 45) rfl))))))
theorem cd_203_479 : mt_cd 203 479 = some (.ldc2_w 86) := mt_cd_of (q := (479, .ldc2_w 86, 3)) mq_203 ci_203 (List.mem_append_right _ (List.mem_append_right _ (List.mem_append_right _ (List.mem_append_right _ (List.mem_append_left _ (show _ ∈ my_203_4 from List.mem_of_getElem? (i := 46) rfl))))))
theorem cd_203_482 : mt_cd 203 482 = some (.land) := mt_cd_of (q := (482, .land, 1)) mq_203 ci_203 (List.mem_append_right _ (List.mem_append_right _ (List.mem_append_right _ (List.mem_append_right _ (List.mem_append_left _ (show _ ∈ my_203_4 from List.mem_of_getElem? (i := 47) rfl))))))
theorem cd_203_483 : mt_cd 203 483 = some (.lor) := mt_cd_of (q := (483, .lor, 1)) mq_203 ci_203 (List.mem_append_right _ (List.mem_append_right _ (List.mem_append_right _ (List.mem_append_right _ (List.mem_append_left _ (show _ ∈ my_203_4 from List.mem_of_getElem? (i := 48) rfl))))))
theorem cd_203_484 : mt_cd 203 484 = some (.invokevirtual 95) := mt_cd_of (q := (484, .invokevirtual 95, 3)) mq_203 ci_203 (List.mem_append_right _ (List.mem_append_right _ (List.mem_append_right _ (List.mem_append_right _ (List.mem_append_left _ (show _ ∈ my_203_4 from List.mem_of_getElem? (i := 49) rfl))))))
theorem cd_203_487 : mt_cd 203 487 = some (.istore 6) := mt_cd_of (q := (487, .istore 6, 2)) mq_203 ci_203 (List.mem_append_right _ (List.mem_append_right _ (List.mem_append_right _ (List.mem_append_right _ (List.mem_append_left _ (show _ ∈ my_203_4 from List.mem_of_getElem? (i := 50) rfl))))))
theorem cd_203_489 : mt_cd 203 489 = some (.aload_n 2) := mt_cd_of (q := (489, .aload_n 2, 1)) mq_203 ci_203 (List.mem_append_right _ (List.mem_append_right _ (List.mem_append_right _ (List.mem_append_right _ (List.mem_append_left _ (show _ ∈ my_203_4 from List.mem_of_getElem? (i := 51) rfl))))))
theorem cd_203_490 : mt_cd 203 490 = some (.invokevirtual 75) := mt_cd_of (q := (490, .invokevirtual 75, 3)) mq_203 ci_203 (List.mem_append_right _ (List.mem_append_right _ (List.mem_append_right _ (List.mem_append_right _ (List.mem_append_left _ (show _ ∈ my_203_4 from List.mem_of_getElem? (i := 52) rfl))))))
theorem cd_203_493 : mt_cd 203 493 = some (.iload 5) := mt_cd_of (q := (493, .iload 5, 2)) mq_203 ci_203 (List.mem_append_right _ (List.mem_append_right _ (List.mem_append_right _ (List.mem_append_right _ (List.mem_append_left _ (show _ ∈ my_203_4 from List.mem_of_getElem? (i := 53) rfl))))))
theorem cd_203_495 : mt_cd 203 495 = some (.if_icmp .eq 5) := mt_cd_of (q := (495, .if_icmp .eq 5, 3)) mq_203 ci_203 (List.mem_append_right _ (List.mem_append_right _ (List.mem_append_right _ (List.mem_append_right _ (List.mem_append_left _ (show _ ∈ my_203_4 from List.mem_of_getElem? (i := 54) rfl))))))
theorem cd_203_498 : mt_cd 203 498 = some (.iconst 0) := mt_cd_of (q := (498, .iconst 0, 1)) mq_203 ci_203 (List.mem_append_right _ (List.mem_append_right _ (List.mem_append_right _ (List.mem_append_right _ (List.mem_append_left _ (show _ ∈ my_203_4 from List.mem_of_getElem? (i := 55) rfl))))))
theorem cd_203_499 : mt_cd 203 499 = some (.ireturn) := mt_cd_of (q := (499, .ireturn, 1)) mq_203 ci_203 (List.mem_append_right _ (List.mem_append_right _ (List.mem_append_right _ (List.mem_append_right _ (List.mem_append_left _ (show _ ∈ my_203_4 from List.mem_of_getElem? (i := 56) rfl))))))
theorem cd_203_500 : mt_cd 203 500 = some (.iload 5) := mt_cd_of (q := (500, .iload 5, 2)) mq_203 ci_203 (List.mem_append_right _ (List.mem_append_right _ (List.mem_append_right _ (List.mem_append_right _ (List.mem_append_left _ (show _ ∈ my_203_4 from List.mem_of_getElem? (i := 57) rfl))))))
theorem cd_203_502 : mt_cd 203 502 = some (.ifCond .ne 15) := mt_cd_of (q := (502, .ifCond .ne 15, 3)) mq_203 ci_203 (List.mem_append_right _ (List.mem_append_right _ (List.mem_append_right _ (List.mem_append_right _ (List.mem_append_left _ (show _ ∈ my_203_4 from List.mem_of_getElem? (i := 58) rfl))))))
theorem cd_203_505 : mt_cd 203 505 = some (.aload_n 3) := mt_cd_of (q := (505, .aload_n 3, 1)) mq_203 ci_203 (List.mem_append_right _ (List.mem_append_right _ (List.mem_append_right _ (List.mem_append_right _ (List.mem_append_left _ (show _ ∈ my_203_4 from List.mem_of_getElem? (i := 59) rfl))))))
theorem cd_203_506 : mt_cd 203 506 = some (.iconst 0) := mt_cd_of (q := (506, .iconst 0, 1)) mq_203 ci_203 (List.mem_append_right _ (List.mem_append_right _ (List.mem_append_right _ (List.mem_append_right _ (List.mem_append_right _ (List.mem_append_left _ (show _ ∈ my_203_5 from List.mem_of_getElem? (i := 0) rfl)))))))
theorem cd_203_507 : mt_cd 203 507 = some (.laload) := mt_cd_of (q := (507, .laload, 1)) mq_203 ci_203 (List.mem_append_right _ (List.mem_append_right _ (List.mem_append_right _ (List.mem_append_right _ (List.mem_append_right _ (List.mem_append_left _ (show _ ∈ my_203_5 from List.mem_of_getElem? (i := 1) rfl)))))))
theorem cd_203_508 : mt_cd 203 508 = some (.iload 6) := mt_cd_of (q := (508, .iload 6, 2)) mq_203 ci_203 (List.mem_append_right _ (List.mem_append_right _ (List.mem_append_right _ (List.mem_append_right _ (List.mem_append_right _ (List.mem_append_left _ (show _ ∈ my_203_5 from List.mem_of_getElem? (i := 2) rfl)))))))
theorem cd_203_510 : mt_cd 203 510 = some (.i2l) := mt_cd_of (q := (510, .i2l, 1)) mq_203 ci_203 (List.mem_append_right _ (List.mem_append_right _ (List.mem_append_right _ (List.mem_append_right _ (List.mem_append_right _ (List.mem_append_left _ (show _ ∈ my_203_5 from List.mem_of_getElem? (i := 3) rfl)))))))
theorem cd_203_511 : mt_cd 203 511 = some (.lcmp) := mt_cd_of (q := (511, .lcmp, 1)) mq_203 ci_203 (List.mem_append_right _ (List.mem_append_right _ (List.mem_append_right _ (List.mem_append_right _ (List.mem_append_right _ (List.mem_append_left _ (show _ ∈ my_203_5 from List.mem_of_getElem? (i := 4) rfl)))))))
theorem cd_203_512 : mt_cd 203 512 = some (.ifCond .eq 5) := mt_cd_of (q := (512, .ifCond .eq 5, 3)) mq_203 ci_203 (List.mem_append_right _ (List.mem_append_right _ (List.mem_append_right _ (List.mem_append_right _ (List.mem_append_right _ (List.mem_append_left _ (show _ ∈ my_203_5 from List.mem_of_getElem? (i := 5) rfl)))))))
theorem cd_203_515 : mt_cd 203 515 = some (.iconst 0) := mt_cd_of (q := (515, .iconst 0, 1)) mq_203 ci_203 (List.mem_append_right _ (List.mem_append_right _ (List.mem_append_right _ (List.mem_append_right _ (List.mem_append_right _ (List.mem_append_left _ (show _ ∈ my_203_5 from List.mem_of_getElem? (i := 6) rfl)))))))
theorem cd_203_516 : mt_cd 203 516 = some (.ireturn) := mt_cd_of (q := (516, .ireturn, 1)) mq_203 ci_203 (List.mem_append_right _ (List.mem_append_right _ (List.mem_append_right _ (List.mem_append_right _ (List.mem_append_right _ (List.mem_append_left _ (show _ ∈ my_203_5 from List.mem_of_getElem? (i := 7) rfl)))))))
theorem cd_203_517 : mt_cd 203 517 = some (.goto 648) := mt_cd_of (q := (517, .goto 648, 3)) mq_203 ci_203 (List.mem_append_right _ (List.mem_append_right _ (List.mem_append_right _ (List.mem_append_right _ (List.mem_append_right _ (List.mem_append_left _ (show _ ∈ my_203_5 from List.mem_of_getElem? (i := 8) rfl)))))))
theorem cd_203_520 : mt_cd 203 520 = some (.aload_n 1) := mt_cd_of (q := (520, .aload_n 1, 1)) mq_203 ci_203 (List.mem_append_right _ (List.mem_append_right _ (List.mem_append_right _ (List.mem_append_right _ (List.mem_append_right _ (List.mem_append_left _ (show _ ∈ my_203_5 from List.mem_of_getElem? (i := 9) rfl)))))))
theorem cd_203_521 : mt_cd 203 521 = some (.aload_n 0) := mt_cd_of (q := (521, .aload_n 0, 1)) mq_203 ci_203 (List.mem_append_right _ (List.mem_append_right _ (List.mem_append_right _ (List.mem_append_right _ (List.mem_append_right _ (List.mem_append_left _ (show _ ∈ my_203_5 from List.mem_of_getElem? (i := 10) rfl)))))))
theorem cd_203_522 : mt_cd 203 522 = some (.iload 4) := mt_cd_of (q := (522, .iload 4, 2)) mq_203 ci_203 (List.mem_append_right _ (List.mem_append_right _ (List.mem_append_right _ (List.mem_append_right _ (List.mem_append_right _ (List.mem_append_left _ (show _ ∈ my_203_5 from List.mem_of_getElem? (i := 11) rfl)))))))
theorem cd_203_524 : mt_cd 203 524 = some (.iconst 1) := mt_cd_of (q := (524, .iconst 1, 1)) mq_203 ci_203 (List.mem_append_right _ (List.mem_append_right _ (List.mem_append_right _ (List.mem_append_right _ (List.mem_append_right _ (List.mem_append_left _ (show _ ∈ my_203_5 from List.mem_of_getElem? (i := 12) rfl)))))))
theorem cd_203_525 : mt_cd 203 525 = some (.iadd) := mt_cd_of (q := (525, .iadd, 1)) mq_203 ci_203 (List.mem_append_right _ (List.mem_append_right _ (List.mem_append_right _ (List.mem_append_right _ (List.mem_append_right _ (List.mem_append_left _ (show _ ∈ my_203_5 from List.mem_of_getElem? (i := 13) rfl)))))))
theorem cd_203_526 : mt_cd 203 526 = some (.iaload) := mt_cd_of (q := (526, .iaload, 1)) mq_203 ci_203 (List.mem_append_right _ (List.mem_append_right _ (List.mem_append_right _ (List.mem_append_right _ (List.mem_append_right _ (List.mem_append_left _ (show _ ∈ my_203_5 from List.mem_of_getElem? (i := 14) rfl)))))))
theorem cd_203_527 : mt_cd 203 527 = some (.aload_n 0) := mt_cd_of (q := (527, .aload_n 0, 1)) mq_203 ci_203 (List.mem_append_right _ (List.mem_append_right _ (List.mem_append_right _ (List.mem_append_right _ (List.mem_append_right _ (List.mem_append_left _ (show _ ∈ my_203_5 from List.mem_of_getElem? (i := 15) rfl)))))))
theorem cd_203_528 : mt_cd 203 528 = some (.iload 4) := mt_cd_of (q := (528, .iload 4, 2)) mq_203 ci_203 (List.mem_append_right _ (List.mem_append_right _ (List.mem_append_right _ (List.mem_append_right _ (List.mem_append_right _ (List.mem_append_left _ (show _ ∈ my_203_5 from List.mem_of_getElem? (i := 16) rfl)))))))
theorem cd_203_530 : mt_cd 203 530 = some (.iconst 2) := mt_cd_of (q := (530, .iconst 2, 1)) mq_203 ci_203 (List.mem_append_right _ (List.mem_append_right _ (List.mem_append_right _ (List.mem_append_right _ (List.mem_append_right _ (List.mem_append_left _ (show _ ∈ my_203_5 from List.mem_of_getElem? (i := 17) rfl)))))))
theorem cd_203_531 : mt_cd 203 531 = some (.iadd) := mt_cd_of (q := (531, .iadd, 1)) mq_203 ci_203 (List.mem_append_right _ (List.mem_append_right _ (List.mem_append_right _ (List.mem_append_right _ (List.mem_append_right _ (List.mem_append_left _ (show _ ∈ my_203_5 from List.mem_of_getElem? (i := 18) rfl)))))))
theorem cd_203_532 : mt_cd 203 532 = some (.iaload) := mt_cd_of (q := (532, .iaload, 1)) mq_203 ci_203 (List.mem_append_right _ (List.mem_append_right _ (List.mem_append_right _ (List.mem_append_right _ (List.mem_append_right _ (List.mem_append_left _ (show _ ∈ my_203_5 from List.mem_of_getElem? (i := 19) rfl)))))))
theorem cd_203_533 : mt_cd 203 533 = some (.i2l) := mt_cd_of (q := (533, .i2l, 1)) mq_203 ci_203 (List.mem_append_right _ (List.mem_append_right _ (List.mem_append_right _ (List.mem_append_right _ (List.mem_append_right _ (List.mem_append_left _ (show _ ∈ my_203_5 from List.mem_of_getElem? (i := 20) rfl)))))))
theorem cd_203_534 : mt_cd 203 534 = some (.bipush 32) := mt_cd_of (q := (534, .bipush 32, 2)) mq_203 ci_203 (List.mem_append_right _ (List.mem_append_right _ (List.mem_append_right _ (List.mem_append_right _ (List.mem_append_right _ (List.mem_append_left _ (show _ ∈ my_203_5 from List.mem_of_getElem? (i := 21) rfl)))))))
theorem cd_203_536 : mt_cd 203 536 = some (.lshl) := mt_cd_of (q := (536, .lshl, 1)) mq_203 ci_203 (List.mem_append_right _ (List.mem_append_right _ (List.mem_append_right _ (List.mem_append_right _ (List.mem_append_right _ (List.mem_append_left _ (show _ ∈ my_203_5 from List.mem_of_getElem? (i := 22) rfl)))))))
theorem cd_203_537 : mt_cd 203 537 = some (.aload_n 0) := mt_cd_of (q := (537, .aload_n 0, 1)) mq_203 ci_203 (List.mem_append_right _ (List.mem_append_right _ (List.mem_append_right _ (List.mem_append_right _ (List.mem_append_right _ (List.mem_append_left _ (show _ ∈ my_203_5 from List.mem_of_getElem? (i := 23) rfl)))))))
theorem cd_203_538 : mt_cd 203 538 = some (.iload 4) := mt_cd_of (q := (538, .iload 4, 2)) mq_203 ci_203 (List.mem_append_right _ (List.mem_append_right _ (List.mem_append_right _ (List.mem_append_right _ (List.mem_append_right _ (List.mem_append_left _ (show _ ∈ my_203_5 from List.mem_of_getElem? (i := 24) rfl)))))))
theorem cd_203_540 : mt_cd 203 540 = some (.iconst 3) := mt_cd_of (q := (540, .iconst 3, 1)) mq_203 ci_203 (List.mem_append_right _ (List.mem_append_right _ (List.mem_append_right _ (List.mem_append_right _ (List.mem_append_right _ (List.mem_append_left _ (show _ ∈ my_203_5 from List.mem_of_getElem? (i := 25) rfl)))))))
theorem cd_203_541 : mt_cd 203 541 = some (.iadd) := mt_cd_of (q := (541, .iadd, 1)) mq_203 ci_203 (List.mem_append_right _ (List.mem_append_right _ (List.mem_append_right _ (List.mem_append_right _ (List.mem_append_right _ (List.mem_append_left _ (show _ ∈ my_203_5 from List.mem_of_getElem? (i := 26) rfl)))))))
theorem cd_203_542 : mt_cd 203 542 = some (.iaload) := mt_cd_of (q := (542, .iaload, 1)) mq_203 ci_203 (List.mem_append_right _ (List.mem_append_right _ (List.mem_append_right _ (List.mem_append_right _ (List.mem_append_right _ (List.mem_append_left _ (show _ ∈ my_203_5 from List.mem_of_getElem? (i := 27) rfl)))))))
theorem cd_203_543 : mt_cd 203 543 = some (.i2l) := mt_cd_of (q := (543, .i2l, 1)) mq_203 ci_203 (List.mem_append_right _ (List.mem_append_right _ (List.mem_append_right _ (List.mem_append_right _ (List.mem_append_right _ (List.mem_append_left _ (show _ ∈ my_203_5 from List.mem_of_getElem? (i := 28) rfl)))))))
theorem cd_203_544 : mt_cd 203 544 = some (.ldc2_w 86) := mt_cd_of (q := (544, .ldc2_w 86, 3)) mq_203 ci_203 (List.mem_append_right _ (List.mem_append_right _ (List.mem_append_right _ (List.mem_append_right _ (List.mem_append_right _ (List.mem_append_left _ (show _ ∈ my_203_5 from List.mem_of_getElem? (i := 29) rfl)))))))
theorem cd_203_547 : mt_cd 203 547 = some (.land) := mt_cd_of (q := (547, .land, 1)) mq_203 ci_203 (List.mem_append_right _ (List.mem_append_right _ (List.mem_append_right _ (List.mem_append_right _ (List.mem_append_right _ (List.mem_append_left _ (show _ ∈ my_203_5 from List.mem_of_getElem? (i := 30) rfl)))))))
theorem cd_203_548 : mt_cd 203 548 = some (.lor) := mt_cd_of (q := (548, .lor, 1)) mq_203 ci_203 (List.mem_append_right _ (List.mem_append_right _ (List.mem_append_right _ (List.mem_append_right _ (List.mem_append_right _ (List.mem_append_left _ (show _ ∈ my_203_5 from List.mem_of_getElem? (i := 31) rfl)))))))
theorem cd_203_549 : mt_cd 203 549 = some (.aload_n 3) := mt_cd_of (q := (549, .aload_n 3, 1)) mq_203 ci_203 (List.mem_append_right _ (List.mem_append_right _ (List.mem_append_right _ (List.mem_append_right _ (List.mem_append_right _ (List.mem_append_left _ (show _ ∈ my_203_5 from List.mem_of_getElem? (i := 32) rfl)))))))
theorem cd_203_550 : mt_cd 203 550 = some (.invokestatic 96) := mt_cd_of (q := (550, .invokestatic 96, 3)) mq_203 ci_203 (List.mem_append_right _ (List.mem_append_right _ (List.mem_append_right _ (List.mem_append_right _ (List.mem_append_right _ (List.mem_append_left _ (show _ ∈ my_203_5 from List.mem_of_getElem? (i := 33) rfl)))))))
theorem cd_203_553 : mt_cd 203 553 = some (.istore 5) := mt_cd_of (q := (553, .istore 5, 2)) mq_203 ci_203 (List.mem_append_right _ (List.mem_append_right _ (List.mem_append_right _ (List.mem_append_right _ (List.mem_append_right _ (List.mem_append_left _ (show _ ∈ my_203_5 from List.mem_of_getElem? (i := 34) rfl)))))))
theorem cd_203_555 : mt_cd 203 555 = some (.aload_n 2) := mt_cd_of (q := (555, .aload_n 2, 1)) mq_203 ci_203 (List.mem_append_right _ (List.mem_append_right _ (List.mem_append_right _ (List.mem_append_right _ (List.mem_append_right _ (List.mem_append_left _ (show _ ∈ my_203_5 from List.mem_of_getElem? (i := 35) rfl)))))))
theorem cd_203_556 : mt_cd 203 556 = some (.aload_n 0) := mt_cd_of (q := (556, .aload_n 0, 1)) mq_203 ci_203 (List.mem_append_right _ (List.mem_append_right _ (List.mem_append_right _ (List.mem_append_right _ (List.mem_append_right _ (List.mem_append_left _ (show _ ∈ my_203_5 from List.mem_of_getElem? (i := 36) rfl)))))))
theorem cd_203_557 : mt_cd 203 557 = some (.iload 4) := mt_cd_of (q := (557, .iload 4, 2)) mq_203 ci_203 (List.mem_append_right _ (List.mem_append_right _ (List.mem_append_right _ (List.mem_append_right _ (List.mem_append_right _ (List.mem_append_left _ (show _ ∈ my_203_5 from List.mem_of_getElem? (i := 37) rfl)))))))
theorem cd_203_559 : mt_cd 203 559 = some (.iconst 1) := mt_cd_of (q := (559, .iconst 1, 1)) mq_203 ci_203 (List.mem_append_right _ (List.mem_append_right _ (List.mem_append_right _ (List.mem_append_right _ (List.mem_append_right _ (List.mem_append_left _ (show _ ∈ my_203_5 from List.mem_of_getElem? (i := 38) rfl)))))))
theorem cd_203_560 : mt_cd 203 560 = some (.iadd) := mt_cd_of (q := (560, .iadd, 1)) mq_203 ci_203 (List.mem_append_right _ (List.mem_append_right _ (List.mem_append_right _ (List.mem_append_right _ (List.mem_append_right _ (List.mem_append_left _ (show _ ∈ my_203_5 from List.mem_of_getElem? (i := 39) rfl)))))))
theorem cd_203_561 : mt_cd 203 561 = some (.iaload) := mt_cd_of (q := (561, .iaload, 1)) mq_203 ci_203 (List.mem_append_right _ (List.mem_append_right _ (List.mem_append_right _ (List.mem_append_right _ (List.mem_append_right _ (List.mem_append_left _ (show _ ∈ my_203_5 from List.mem_of_getElem? (i := 40) rfl)))))))
theorem cd_203_562 : mt_cd 203 562 = some (.aload_n 0) := mt_cd_of (q := (562, .aload_n 0, 1)) mq_203 ci_203 (List.mem_append_right _ (List.mem_append_right _ (List.mem_append_right _ (List.mem_append_right _ (List.mem_append_right _ (List.mem_append_left _ (show _ ∈ my_203_5 from List.mem_of_getElem? (i := 41) rfl)))))))
theorem cd_203_563 : mt_cd 203 563 = some (.iload 4) := mt_cd_of (q := (563, .iload 4, 2)) mq_203 ci_203 (List.mem_append_right _ (List.mem_append_right _ (List.mem_append_right _ (List.mem_append_right _ (List.mem_append_right _ (List.mem_append_left _ (show _ ∈ my_203_5 from List.mem_of_getElem? (i := 42) rfl)))))))
theorem cd_203_565 : mt_cd 203 565 = some (.iconst 2) := mt_cd_of (q := (565, .iconst 2, 1)) mq_203 ci_203 (List.mem_append_right _ (List.mem_append_right _ (List.mem_append_right _ (List.mem_append_right _ (List.mem_append_right _ (List.mem_append_left _ (show _ ∈ my_203_5 from List.mem_of_getElem? (i := 43) rfl)))))))
theorem cd_203_566 : mt_cd 203 566 = some (.iadd) := mt_cd_of (q := (566, .iadd, 1)) mq_203 ci_203 (List.mem_append_right _ (List.mem_append_right _ (List.mem_append_right _ (List.mem_append_right _ (List.mem_append_right _ (List.mem_append_left _ (show _ ∈ my_203_5 from List.mem_of_getElem? (i := 44) rfl)))))))
theorem cd_203_567 : mt_cd 203 567 = some (.iaload) := mt_cd_of (q := (567, .iaload, 1)) mq_203 ci_203 (List.mem_append_right _ (List.mem_append_right _ (List.mem_append_right _ (List.mem_append_right _ (List.mem_append_right _ (List.mem_append_left _ (show _ ∈ my_203_5 from List.mem_of_getElem? (i := 45) rfl)))))))
theorem cd_203_568 : mt_cd 203 568 = some (.i2l) := mt_cd_of (q := (568, .i2l, 1)) mq_203 ci_203 (List.mem_append_right _ (List.mem_append_right _ (List.mem_append_right _ (List.mem_append_right _ (List.mem_append_right _ (List.mem_append_left _ (show _ ∈ my_203_5 from List.mem_of_getElem? (i := 46) rfl)))))))
theorem cd_203_569 : mt_cd 203 569 = some (.bipush 32) := mt_cd_of (q := (569, .bipush 32, 2)) mq_203 ci_203 (List.mem_append_right _ (List.mem_append_right _ (List.mem_append_right _ (List.mem_append_right _ (List.mem_append_right _ (List.mem_append_left _ (show _ ∈ my_203_5 from List.mem_of_getElem? (i := 47) rfl)))))))
theorem cd_203_571 : mt_cd 203 571 = some (.lshl) := mt_cd_of (q := (571, .lshl, 1)) mq_203 ci_203 (List.mem_append_right _ (List.mem_append_right _ (List.mem_append_right _ (List.mem_append_right _ (List.mem_append_right _ (List.mem_append_left _ (show _ ∈ my_203_5 from List.mem_of_getElem? (i := 48) rfl)))))))
theorem cd_203_572 : mt_cd 203 572 = some (.aload_n 0) := mt_cd_of (q := (572, .aload_n 0, 1)) mq_203 ci_203 (List.mem_append_right _ (List.mem_append_right _ (List.mem_append_right _ (List.mem_append_right _ (List.mem_append_right _ (List.mem_append_left _ (show _ ∈ my_203_5 from List.mem_of_getElem? (i := 49) rfl)))))))
theorem cd_203_573 : mt_cd 203 573 = some (.iload 4) := mt_cd_of (q := (573, .iload 4, 2)) mq_203 ci_203 (List.mem_append_right _ (List.mem_append_right _ (List.mem_append_right _ (List.mem_append_right _ (List.mem_append_right _ (List.mem_append_left _ (show _ ∈ my_203_5 from List.mem_of_getElem? (i := 50) rfl)))))))
theorem cd_203_575 : mt_cd 203 575 = some (.iconst 3) := mt_cd_of (q := (575, .iconst 3, 1)) mq_203 ci_203 (List.mem_append_right _ (List.mem_append_right _ (List.mem_append_right _ (List.mem_append_right _ (List.mem_append_right _ (List.mem_append_left _ (show _ ∈ my_203_5 from List.mem_of_getElem? (i := 51) rfl)))))))
theorem cd_203_576 : mt_cd 203 576 = some (.iadd) := mt_cd_of (q := (576, .iadd, 1)) mq_203 ci_203 (List.mem_append_right _ (List.mem_append_right _ (List.mem_append_right _ (List.mem_append_right _ (List.mem_append_right _ (List.mem_append_left _ (show _ ∈ my_203_5 from List.mem_of_getElem? (i := 52) rfl)))))))
theorem cd_203_577 : mt_cd 203 577 = some (.iaload) := mt_cd_of (q := (577, .iaload, 1)) mq_203 ci_203 (List.mem_append_right _ (List.mem_append_right _ (List.mem_append_right _ (List.mem_append_right _ (List.mem_append_right _ (List.mem_append_left _ (show _ ∈ my_203_5 from List.mem_of_getElem? (i := 53) rfl)))))))
theorem cd_203_578 : mt_cd 203 578 = some (.i2l) := mt_cd_of (q := (578, .i2l, 1)) mq_203 ci_203 (List.mem_append_right _ (List.mem_append_right _ (List.mem_append_right _ (List.mem_append_right _ (List.mem_append_right _ (List.mem_append_left _ (show _ ∈ my_203_5 from List.mem_of_getElem? (i := 54) rfl)))))))
theorem cd_203_579 : mt_cd 203 579 = some (.ldc2_w 86) := mt_cd_of (q := (579, .ldc2_w 86, 3)) mq_203 ci_203 (List.mem_append_right _ (List.mem_append_right _ (List.mem_append_right _ (List.mem_append_right _ (List.mem_append_right _ (List.mem_append_left _ (show _ ∈ my_203_5 from List.mem_of_getElem? (i := 55) rfl)))))))
theorem cd_203_582 : mt_cd 203 582 = some (.land) := mt_cd_of (q := (582, .land, 1)) mq_203 ci_203 (List.mem_append_right _ (List.mem_append_right _ (List.mem_append_right _ (List.mem_append_right _ (List.mem_append_right _ (List.mem_append_left _ (show _ ∈ my_203_5 from List.mem_of_getElem? (i := 56) rfl)))))))
theorem cd_203_583 : mt_cd 203 583 = some (.lor) := mt_cd_of (q := (583, .lor, 1)) mq_203 ci_203 (List.mem_append_right _ (List.mem_append_right _ (List.mem_append_right _ (List.mem_append_right _ (List.mem_append_right _ (List.mem_append_left _ (show _ ∈ my_203_5 from List.mem_of_getElem? (i := 57) rfl)))))))
theorem cd_203_584 : mt_cd 203 584 = some (.invokevirtual 99) := mt_cd_of (q := (584, .invokevirtual 99, 3)) mq_203 ci_203 (List.mem_append_right _ (List.mem_append_right _ (List.mem_append_right _ (List.mem_append_right _ (List.mem_append_right _ (List.mem_append_left _ (show _ ∈ my_203_5 from List.mem_of_getElem? (i := 58) rfl)))))))
theorem cd_203_587 : mt_cd 203 587 = some (.istore 6) := mt_cd_of (q := (587, .istore 6, 2)) mq_203 ci_203 (List.mem_append_right _ (List.mem_append_right _ (List.mem_append_right _ (List.mem_append_right _ (List.mem_append_right _ (List.mem_append_left _ (show _ ∈ my_203_5 from List.mem_of_getElem? (i := 59) rfl)))))))
theorem cd_203_589 : mt_cd 203 589 = some (.aload_n 2) := mt_cd_of (q := (589, .aload_n 2, 1)) mq_203 ci_203 (List.mem_append_right _ (List.mem_append_right _ (List.mem_append_right _ (List.mem_append_right _ (List.mem_append_right _ (List.mem_append_right _ (List.mem_append_left _ (show _ ∈ my_203_6 from List.mem_of_getElem? (i := 0) rfl))))))))
theorem cd_203_590 : mt_cd 203 590 = some (.invokevirtual 75) := mt_cd_of (q := (590, .invokevirtual 75, 3)) mq_203 ci_203 (List.mem_append_right _ (List.mem_append_right _ (List.mem_append_right _ (List.mem_append_right _ (List.mem_append_right _ (List.mem_append_right _ (List.mem_append_left _ (show _ ∈ my_203_6 from List.mem_of_getElem? (i := 1) rfl))))))))
theorem cd_203_593 : mt_cd 203 593 = some (.iload 5) := mt_cd_of (q := (593, .iload 5, 2)) mq_203 ci_203 (List.mem_append_right _ (List.mem_append_right _ (List.mem_append_right _ (List.mem_append_right _ (List.mem_append_right _ (List.mem_append_right _ (List.mem_append_left _ (show _ ∈ my_203_6 from List.mem_of_getElem? (i := 2) rfl))))))))
theorem cd_203_595 : mt_cd 203 595 = some (.if_icmp .eq 5) := mt_cd_of (q := (595, .if_icmp .eq 5, 3)) mq_203 ci_203 (List.mem_append_right _ (List.mem_append_right _ (List.mem_append_right _ (List.mem_append_right _ (List.mem_append_right _ (List.mem_append_right _ (List.mem_append_left _ (show _ ∈ my_203_6 from List.mem_of_getElem? (i := 3) rfl))))))))
theorem cd_203_598 : mt_cd 203 598 = some (.iconst 0) := mt_cd_of (q := (598, .iconst 0, 1)) mq_203 ci_203 (List.mem_append_right _ (List.mem_append_right _ (List.mem_append_right _ (List.mem_append_right _ (List.mem_append_right _ (List.mem_append_right _ (List.mem_append_left _ (show _ ∈ my_203_6 from List.mem_of_getElem? (i := 4) rfl))))))))
theorem cd_203_599 : mt_cd 203 599 = some (.ireturn) := mt_cd_of (q := (599, .ireturn, 1)) mq_203 ci_203 (List.mem_append_right _ (List.mem_append_right _ (List.mem_append_right _ (List.mem_append_right _ (List.mem_append_right _ (List.mem_append_right _ (List.mem_append_left _ (show _ ∈ my_203_6 from List.mem_of_getElem? (i := 5) rfl))))))))
theorem cd_203_600 : mt_cd 203 600 = some (.iload 5) := mt_cd_of (q := (600, .iload 5, 2)) mq_203 ci_203 (List.mem_append_right _ (List.mem_append_right _ (List.mem_append_right _ (List.mem_append_right _ (List.mem_append_right _ (List.mem_append_right _ (List.mem_append_left _ (show _ ∈ my_203_6 from List.mem_of_getElem? (i := 6) rfl))))))))
theorem cd_203_602 : mt_cd 203 602 = some (.ifCond .ne 15) := mt_cd_of (q := (602, .ifCond .ne 15, 3)) mq_203 ci_203 (List.mem_append_right _ (List.mem_append_right _ (List.mem_append_right _ (List.mem_append_right _ (List.mem_append_right _ (List.mem_append_right _ (List.mem_append_left _ (show _ ∈ my_203_6 from List.mem_of_getElem? (i := 7) rfl))))))))
theorem cd_203_605 : mt_cd 203 605 = some (.aload_n 3) := mt_cd_of (q := (605, .aload_n 3, 1)) mq_203 ci_203 (List.mem_append_right _ (List.mem_append_right _ (List.mem_append_right _ (List.mem_append_right _ (List.mem_append_right _ (List.mem_append_right _ (List.mem_append_left _ (show _ ∈ my_203_6 from List.mem_of_getElem? (i := 8) rfl))))))))
theorem cd_203_606 : mt_cd 203 606 = some (.iconst 0) := mt_cd_of (q := (606, .iconst 0, 1)) mq_203 ci_203 (List.mem_append_right _ (List.mem_append_right _ (List.mem_append_right _ (List.mem_append_right _ (List.mem_append_right _ (List.mem_append_right _ (List.mem_append_left _ (show _ ∈ my_203_6 from List.mem_of_getElem? (i := 9) rfl))))))))
theorem cd_203_607 : mt_cd 203 607 = some (.laload) := mt_cd_of (q := (607, .laload, 1)) mq_203 ci_203 (List.mem_append_right _ (List.mem_append_right _ (List.mem_append_right _ (List.mem_append_right _ (List.mem_append_right _ (List.mem_append_right _ (List.mem_append_left _ (show _ ∈ my_203_6 from List.mem_of_getElem? (i := 10) rfl))))))))
theorem cd_203_608 : mt_cd 203 608 = some (.iload 6) := mt_cd_of (q := (608, .iload 6, 2)) mq_203 ci_203 (List.mem_append_right _ (List.mem_append_right _ (List.mem_append_right _ (List.mem_append_right _ (List.mem_append_right _ (List.mem_append_right _ (List.mem_append_left _ (show _ ∈ my_203_6 from List.mem_of_getElem? (i := 11) rfl))))))))
theorem cd_203_610 : mt_cd 203 610 = some (.i2l) := mt_cd_of (q := (610, .i2l, 1)) mq_203 ci_203 (List.mem_append_right _ (List.mem_append_right _ (List.mem_append_right _ (List.mem_append_right _ (List.mem_append_right _ (List.mem_append_right _ (List.mem_append_left _ (show _ ∈ my_203_6 from List.mem_of_getElem? (i := 12) rfl))))))))
theorem cd_203_611 : mt_cd 203 611 = some (.lcmp) := mt_cd_of (q := (611, .lcmp, 1)) mq_203 ci_203 (List.mem_append_right _ (List.mem_append_right _ (List.mem_append_right _ (List.mem_append_right _ (List.mem_append_right _ (List.mem_append_right _ (List.mem_append_left _ (show _ ∈ my_203_6 from List.mem_of_getElem? (i := 13) rfl))))))))
theorem cd_203_612 : mt_cd 203 612 = some (.ifCond .eq 5) := mt_cd_of (q := (612, .ifCond .eq 5, 3)) mq_203 ci_203 (List.mem_append_right _ (List.mem_append_right _ (List.mem_append_right _ (List.mem_append_right _ (List.mem_append_right _ (List.mem_append_right _ (List.mem_append_left _ (show _ ∈ my_203_6 from List.mem_of_getElem? (i := 14) rfl))))))))
theorem cd_203_615 : mt_cd 203 615 = some (.iconst 0) := mt_cd_of (q := (615, .iconst 0, 1)) mq_203 ci_203 (List.mem_append_right _ (List.mem_append_right _ (List.mem_append_right _ (List.mem_append_right _ (List.mem_append_right _ (List.mem_append_right _ (List.mem_append_left _ (show _ ∈ my_203_6 from List.mem_of_getElem? (i := 15) rfl))))))))
theorem cd_203_616 : mt_cd 203 616 = some (.ireturn) := mt_cd_of (q := (616, .ireturn, 1)) mq_203 ci_203 (List.mem_append_right _ (List.mem_append_right _ (List.mem_append_right _ (List.mem_append_right _ (List.mem_append_right _ (List.mem_append_right _ (List.mem_append_left _ (show _ ∈ my_203_6 from List.mem_of_getElem? (i := 16) rfl))))))))
theorem cd_203_617 : mt_cd 203 617 = some (.goto 548) := mt_cd_of (q := (617, .goto 548, 3)) mq_203 ci_203 (List.mem_append_right _ (List.mem_append_right _ (List.mem_append_right _ (List.mem_append_right _ (List.mem_append_right _ (List.mem_append_right _ (List.mem_append_left _ (show _ ∈ my_203_6 from List.mem_of_getElem? (i := 17) rfl))))))))
theorem cd_203_620 : mt_cd 203 620 = some (.aload_n 1) := mt_cd_of (q := (620, .aload_n 1, 1)) mq_203 ci_203 (List.mem_append_right _ (List.mem_append_right _ (List.mem_append_right _ (List.mem_append_right _ (List.mem_append_right _ (List.mem_append_right _ (List.mem_append_left _ (show _ ∈ my_203_6 from List.mem_of_getElem? (i := 18) rfl))))))))
theorem cd_203_621 : mt_cd 203 621 = some (.aload_n 3) := mt_cd_of (q := (621, .aload_n 3, 1)) mq_203 ci_203 (List.mem_append_right _ (List.mem_append_right _ (List.mem_append_right _ (List.mem_append_right _ (List.mem_append_right _ (List.mem_append_right _ (List.mem_append_left _ (show _ ∈ my_203_6 from List.mem_of_getElem? (i := 19) rfl))))))))
theorem cd_203_622 : mt_cd 203 622 = some (.invokestatic 100) := mt_cd_of (q := (622, .invokestatic 100, 3)) mq_203 ci_203 (List.mem_append_right _ (List.mem_append_right _ (List.mem_append_right _ (List.mem_append_right _ (List.mem_append_right _ (List.mem_append_right _ (List.mem_append_left _ (show _ ∈ my_203_6 from List.mem_of_getElem? (i := 20) rfl))))))))
theorem cd_203_625 : mt_cd 203 625 = some (.istore 5) := mt_cd_of (q := (625, .istore 5, 2)) mq_203 ci_203 (List.mem_append_right _ (List.mem_append_right _ (List.mem_append_right _ (List.mem_append_right _ (List.mem_append_right _ (List.mem_append_right _ (List.mem_append_left _ (show _ ∈ my_203_6 from List.mem_of_getElem? (i := 21) rfl))))))))
theorem cd_203_627 : mt_cd 203 627 = some (.aload_n 2) := mt_cd_of (q := (627, .aload_n 2, 1)) mq_203 ci_203 (List.mem_append_right _ (List.mem_append_right _ (List.mem_append_right _ (List.mem_append_right _ (List.mem_append_right _ (List.mem_append_right _ (List.mem_append_left _ (show _ ∈ my_203_6 from List.mem_of_getElem? (i := 22) rfl))))))))
theorem cd_203_628 : mt_cd 203 628 = some (.invokevirtual 103) := mt_cd_of (q := (628, .invokevirtual 103, 3)) mq_203 ci_203 (List.mem_append_right _ (List.mem_append_right _ (List.mem_append_right _ (List.mem_append_right _ (List.mem_append_right _ (List.mem_append_right _ (List.mem_append_left _ (show _ ∈ my_203_6 from List.mem_of_getElem? (i := 23) rfl))))))))
theorem cd_203_631 : mt_cd 203 631 = some (.istore 6) := mt_cd_of (q := (631, .istore 6, 2)) mq_203 ci_203 (List.mem_append_right _ (List.mem_append_right _ (List.mem_append_right _ (List.mem_append_right _ (List.mem_append_right _ (List.mem_append_right _ (List.mem_append_left _ (show _ ∈ my_203_6 from List.mem_of_getElem? (i := 24) rfl))))))))
theorem cd_203_633 : mt_cd 203 633 = some (.aload_n 2) := mt_cd_of (q := (633, .aload_n 2, 1)) mq_203 ci_203 (List.mem_append_right _ (List.mem_append_right _ (List.mem_append_right _ (List.mem_append_right _ (List.mem_append_right _ (List.mem_append_right _ (List.mem_append_left _ (show _ ∈ my_203_6 from List.mem_of_getElem? (i := 25) rfl))))))))
theorem cd_203_634 : mt_cd 203 634 = some (.invokevirtual 75) := mt_cd_of (q := (634, .invokevirtual 75, 3)) mq_203 ci_203 (List.mem_append_right _ (List.mem_append_right _ (List.mem_append_right _ (List.mem_append_right _ (List.mem_append_right _ (List.mem_append_right _ (List.mem_append_left _ (show _ ∈ my_203_6 from List.mem_of_getElem? (i := 26) rfl))))))))
theorem cd_203_637 : mt_cd 203 637 = some (.iload 5) := mt_cd_of (q := (637, .iload 5, 2)) mq_203 ci_203 (List.mem_append_right _ (List.mem_append_right _ (List.mem_append_right _ (List.mem_append_right _ (List.mem_append_right _ (List.mem_append_right _ (List.mem_append_left _ (show _ ∈ my_203_6 from List.mem_of_getElem? (i := 27) rfl))))))))
theorem cd_203_639 : mt_cd 203 639 = some (.if_icmp .eq 5) := mt_cd_of (q := (639, .if_icmp .eq 5, 3)) mq_203 ci_203 (List.mem_append_right _ (List.mem_append_right _ (List.mem_append_right _ (List.mem_append_right _ (List.mem_append_right _ (List.mem_append_right _ (List.mem_append_left _ (show _ ∈ my_203_6 from List.mem_of_getElem? (i := 28) rfl))))))))
theorem cd_203_642 : mt_cd 203 642 = some (.iconst 0) := mt_cd_of (q := (642, .iconst 0, 1)) mq_203 ci_203 (List.mem_append_right _ (List.mem_append_right _ (List.mem_append_right _ (List.mem_append_right _ (List.mem_append_right _ (List.mem_append_right _ (List.mem_append_left _ (show _ ∈ my_203_6 from List.mem_of_getElem? (i := 29) rfl))))))))
theorem cd_203_643 : mt_cd 203 643 = some (.ireturn) := mt_cd_of (q := (643, .ireturn, 1)) mq_203 ci_203 (List.mem_append_right _ (List.mem_append_right _ (List.mem_append_right _ (List.mem_append_right _ (List.mem_append_right _ (List.mem_append_right _ (List.mem_append_left _ (show _ ∈ my_203_6 from List.mem_of_getElem? (i := 30) rfl))))))))
theorem cd_203_644 : mt_cd 203 644 = some (.iload 5) := mt_cd_of (q := (644, .iload 5, 2)) mq_203 ci_203 (List.mem_append_right _ (List.mem_append_right _ (List.mem_append_right _ (List.mem_append_right _ (List.mem_append_right _ (List.mem_append_right _ (List.mem_append_left _ (show _ ∈ my_203_6 from List.mem_of_getElem? (i := 31) rfl))))))))
theorem cd_203_646 : mt_cd 203 646 = some (.ifCond .ne 15) := mt_cd_of (q := (646, .ifCond .ne 15, 3)) mq_203 ci_203 (List.mem_append_right _ (List.mem_append_right _ (List.mem_append_right _ (List.mem_append_right _ (List.mem_append_right _ (List.mem_append_right _ (List.mem_append_left _ (show _ ∈ my_203_6 from List.mem_of_getElem? (i := 32) rfl))))))))
theorem cd_203_649 : mt_cd 203 649 = some (.aload_n 3) := mt_cd_of (q := (649, .aload_n 3, 1)) mq_203 ci_203 (List.mem_append_right _ (List.mem_append_right _ (List.mem_append_right _ (List.mem_append_right _ (List.mem_append_right _ (List.mem_append_right _ (List.mem_append_left _ (show _ ∈ my_203_6 from List.mem_of_getElem? (i := 33) rfl))))))))
theorem cd_203_650 : mt_cd 203 650 = some (.iconst 0) := mt_cd_of (q := (650, .iconst 0, 1)) mq_203 ci_203 (List.mem_append_right _ (List.mem_append_right _ (List.mem_append_right _ (List.mem_append_right _ (List.mem_append_right _ (List.mem_append_right _ (List.mem_append_left _ (show _ ∈ my_203_6 from List.mem_of_getElem? (i := 34) rfl))))))))
theorem cd_203_651 : mt_cd 203 651 = some (.laload) := mt_cd_of (q := (651, .laload, 1)) mq_203 ci_203 (List.mem_append_right _ (List.mem_append_right _ (List.mem_append_right _ (List.mem_append_right _ (List.mem_append_right _ (List.mem_append_right _ (List.mem_append_left _ (show _ ∈ my_203_6 from List.mem_of_getElem? (i := 35) rfl))))))))
theorem cd_203_652 : mt_cd 203 652 = some (.iload 6) := mt_cd_of (q := (652, .iload 6, 2)) mq_203 ci_203 (List.mem_append_right _ (List.mem_append_right _ (List.mem_append_right _ (List.mem_append_right _ (List.mem_append_right _ (List.mem_append_right _ (List.mem_append_left _ (show _ ∈ my_203_6 from List.mem_of_getElem? (i := 36) rfl))))))))
theorem cd_203_654 : mt_cd 203 654 = some (.i2l) := mt_cd_of (q := (654, .i2l, 1)) mq_203 ci_203 (List.mem_append_right _ (List.mem_append_right _ (List.mem_append_right _ (List.mem_append_right _ (List.mem_append_right _ (List.mem_append_right _ (List.mem_append_left _ (show _ ∈ my_203_6 from List.mem_of_getElem? (i := 37) rfl))))))))
theorem cd_203_655 : mt_cd 203 655 = some (.lcmp) := mt_cd_of (q := (655, .lcmp, 1)) mq_203 ci_203 (List.mem_append_right _ (List.mem_append_right _ (List.mem_append_right _ (List.mem_append_right _ (List.mem_append_right _ (List.mem_append_right _ (List.mem_append_left _ (show _ ∈ my_203_6 from List.mem_of_getElem? (i := 38) rfl))))))))
theorem cd_203_656 : mt_cd 203 656 = some (.ifCond .eq 5) := mt_cd_of (q := (656, .ifCond .eq 5, 3)) mq_203 ci_203 (List.mem_append_right _ (List.mem_append_right _ (List.mem_append_right _ (List.mem_append_right _ (List.mem_append_right _ (List.mem_append_right _ (List.mem_append_left _ (show _ ∈ my_203_6 from List.mem_of_getElem? (i := 39) rfl))))))))
theorem cd_203_659 : mt_cd 203 659 = some (.iconst 0) := mt_cd_of (q := (659, .iconst 0, 1)) mq_203 ci_203 (List.mem_append_right _ (List.mem_append_right _ (List.mem_append_right _ (List.mem_append_right _ (List.mem_append_right _ (List.mem_append_right _ (List.mem_append_left _ (show _ ∈ my_203_6 from List.mem_of_getElem? (i := 40) rfl))))))))
theorem cd_203_660 : mt_cd 203 660 = some (.ireturn) := mt_cd_of (q := (660, .ireturn, 1)) mq_203 ci_203 (List.mem_append_right _ (List.mem_append_right _ (List.mem_append_right _ (List.mem_append_right _ (List.mem_append_right _ (List.mem_append_right _ (List.mem_append_left _ (show _ ∈ my_203_6 from List.mem_of_getElem? (i := 41) rfl))))))))
theorem cd_203_661 : mt_cd 203 661 = some (.goto 504) := mt_cd_of (q := (661, .goto 504, 3)) mq_203 ci_203 (List.mem_append_right _ (List.mem_append_right _ (List.mem_append_right _ (List.mem_append_right _ (List.mem_append_right _ (List.mem_append_right _ (List.mem_append_left _ (show _ ∈ my_203_6 from List.mem_of_getElem? (i := 42) rfl))))))))
theorem cd_203_664 : mt_cd 203 664 = some (.aload_n 1) := mt_cd_of (q := (664, .aload_n 1, 1)) mq_203 ci_203 (List.mem_append_right _ (List.mem_append_right _ (List.mem_append_right _ (List.mem_append_right _ (List.mem_append_right _ (List.mem_append_right _ (List.mem_append_left _ (show _ ∈ my_203_6 from List.mem_of_getElem? (i := 43) rfl))))))))
theorem cd_203_665 : mt_cd 203 665 = some (.aload_n 0) := mt_cd_of (q := (665, .aload_n 0, 1)) mq_203 ci_203 (List.mem_append_right _ (List.mem_append_right _ (List.mem_append_right _ (List.mem_append_right _ (List.mem_append_right _ (List.mem_append_right _ (List.mem_append_left _ (show _ ∈ my_203_6 from List.mem_of_getElem? (i := 44) rfl))))))))
theorem cd_203_666 : mt_cd 203 666 = some (.iload 4) := mt_cd_of (q := (666, .iload 4, 2)) mq_203 ci_203 (List.mem_append_right _ (List.mem_append_right _ (List.mem_append_right _ (List.mem_append_right _ (List.mem_append_right _ (List.mem_append_right _ (List.mem_append_left _ (show _ ∈ my_203_6 from List.mem_of_getElem? (i := 45) rfl))))))))
theorem cd_203_668 : mt_cd 203 668 = some (.iconst 1) := mt_cd_of (q := (668, .iconst 1, 1)) mq_203 ci_203 (List.mem_append_right _ (List.mem_append_right _ (List.mem_append_right _ (List.mem_append_right _ (List.mem_append_right _ (List.mem_append_right _ (List.mem_append_left _ (show _ ∈ my_203_6 from List.mem_of_getElem? (i := 46) rfl))))))))
theorem cd_203_669 : mt_cd 203 669 = some (.iadd) := mt_cd_of (q := (669, .iadd, 1)) mq_203 ci_203 (List.mem_append_right _ (List.mem_append_right _ (List.mem_append_right _ (List.mem_append_right _ (List.mem_append_right _ (List.mem_append_right _ (List.mem_append_left _ (show _ ∈ my_203_6 from List.mem_of_getElem? (i := 47) rfl))))))))
theorem cd_203_670 : mt_cd 203 670 = some (.iaload) := mt_cd_of (q := (670, .iaload, 1)) mq_203 ci_203 (List.mem_append_right _ (List.mem_append_right _ (List.mem_append_right _ (List.mem_append_right _ (List.mem_append_right _ (List.mem_append_right _ (List.mem_append_left _ (show _ ∈ my_203_6 from List.mem_of_getElem? (i := 48) rfl))))))))
theorem cd_203_671 : mt_cd 203 671 = some (.i2l) := mt_cd_of (q := (671, .i2l, 1)) mq_203 ci_203 (List.mem_append_right _ (List.mem_append_right _ (List.mem_append_right _ (List.mem_append_right _ (List.mem_append_right _ (List.mem_append_right _ (List.mem_append_left _ (show _ ∈ my_203_6 from List.mem_of_getElem? (i := 49) rfl))))))))
theorem cd_203_672 : mt_cd 203 672 = some (.bipush 32) := mt_cd_of (q := (672, .bipush 32, 2)) mq_203 ci_203 (List.mem_append_right _ (List.mem_append_right _ (List.mem_append_right _ (List.mem_append_right _ (List.mem_append_right _ (List.mem_append_right _ (List.mem_append_left _ (show _ ∈ my_203_6 from List.mem_of_getElem? (i := 50) rfl))))))))
theorem cd_203_674 : mt_cd 203 674 = some (.lshl) := mt_cd_of (q := (674, .lshl, 1)) mq_203 ci_203 (List.mem_append_right _ (List.mem_append_right _ (List.mem_append_right _ (List.mem_append_right _ (List.mem_append_right _ (List.mem_append_right _ (List.mem_append_left _ (show _ ∈ my_203_6 from List.mem_of_getElem? (i := 51) rfl))))))))
theorem cd_203_675 : mt_cd 203 675 = some (.aload_n 0) := mt_cd_of (q := (675, .aload_n 0, 1)) mq_203 ci_203 (List.mem_append_right _ (List.mem_append_right _ (List.mem_append_right _ (List.mem_append_right _ (List.mem_append_right _ (List.mem_append_right _ (List.mem_append_left _ (show _ ∈ my_203_6 from List.mem_of_getElem? (i := 52) rfl))))))))
theorem cd_203_676 : mt_cd 203 676 = some (.iload 4) := mt_cd_of (q := (676, .iload 4, 2)) mq_203 ci_203 (List.mem_append_right _ (List.mem_append_right _ (List.mem_append_right _ (List.mem_append_right _ (List.mem_append_right _ (List.mem_append_right _ (List.mem_append_left _ (show _ ∈ my_203_6 from List.mem_of_getElem? (i := 53) rfl))))))))
theorem cd_203_678 : mt_cd 203 678 = some (.iconst 2) := mt_cd_of (q := (678, .iconst 2, 1)) mq_203 ci_203 (List.mem_append_right _ (List.mem_append_right _ (List.mem_append_right _ (List.mem_append_right _ (List.mem_append_right _ (List.mem_append_right _ (List.mem_append_left _ (show _ ∈ my_203_6 from List.mem_of_getElem? (i := 54) rfl))))))))
theorem cd_203_679 : mt_cd 203 679 = some (.iadd) := mt_cd_of (q := (679, .iadd, 1)) mq_203 ci_203 (List.mem_append_right _ (List.mem_append_right _ (List.mem_append_right _ (List.mem_append_right _ (List.mem_append_right _ (List.mem_append_right _ (List.mem_append_left _ (show _ ∈ my_203_6 from List.mem_of_getElem? (i := 55) rfl))))))))
theorem cd_203_680 : mt_cd 203 680 = some (.iaload) := mt_cd_of (q := (680, .iaload, 1)) mq_203 ci_203 (List.mem_append_right _ (List.mem_append_right _ (List.mem_append_right _ (List.mem_append_right _ (List.mem_append_right _ (List.mem_append_right _ (List.mem_append_left _ (show _ ∈ my_203_6 from List.mem_of_getElem? (i := 56) rfl))))))))
theorem cd_203_681 : mt_cd 203 681 = some (.i2l) := mt_cd_of (q := (681, .i2l, 1)) mq_203 ci_203 (List.mem_append_right _ (List.mem_append_right _ (List.mem_append_right _ (List.mem_append_right _ (List.mem_append_right _ (List.mem_append_right _ (List.mem_append_left _ (show _ ∈ my_203_6 from List.mem_of_getElem? (i := 57) rfl))))))))
theorem cd_203_682 : mt_cd 203 682 = some (.ldc2_w 86) := mt_cd_of (q := (682, .ldc2_w 86, 3)) mq_203 ci_203 (List.mem_append_right _ (List.mem_append_right _ (List.mem_append_right _ (List.mem_append_right _ (List.mem_append_right _ (List.mem_append_right _ (List.mem_append_left _ (show _ ∈ my_203_6 from List.mem_of_getElem? (i := 58) rfl))))))))
theorem cd_203_685 : mt_cd 203 685 = some (.land) := mt_cd_of (q := (685, .land, 1)) mq_203 ci_203 (List.mem_append_right _ (List.mem_append_right _ (List.mem_append_right _ (List.mem_append_right _ (List.mem_append_right _ (List.mem_append_right _ (List.mem_append_left _ (show _ ∈ my_203_6 from List.mem_of_getElem? (i := 59) rfl))))))))
theorem cd_203_686 : mt_cd 203 686 = some (.lor) := mt_cd_of (q := (686, .lor, 1)) mq_203 ci_203 (List.mem_append_right _ (List.mem_append_right _ (List.mem_append_right _ (List.mem_append_right _ (List.mem_append_right _ (List.mem_append_right _ (List.mem_append_right _ (List.mem_append_left _ (show _ ∈ my_203_7 from List.mem_of_getElem? (i := 0) rfl)))))))))
theorem cd_203_687 : mt_cd 203 687 = some (.aload_n 0) := mt_cd_of (q := (687, .aload_n 0, 1)) mq_203 ci_203 (List.mem_append_right _ (List.mem_append_right _ (List.mem_append_right _ (List.mem_append_right _ (List.mem_append_right _ (List.mem_append_right _ (List.mem_append_right _ (List.mem_append_left _ (show _ ∈ my_203_7 from List.mem_of_getElem? (i := 1) rfl)))))))))
theorem cd_203_688 : mt_cd 203 688 = some (.iload 4) := mt_cd_of (q := (688, .iload 4, 2)) mq_203 ci_203 (List.mem_append_right _ (List.mem_append_right _ (List.mem_append_right _ (List.mem_append_right _ (List.mem_append_right _ (List.mem_append_right _ (List.mem_append_right _ (List.mem_append_left _ (show _ ∈ my_203_7 from List.mem_of_getElem? (i := 2) rfl)))))))))
theorem cd_203_690 : mt_cd 203 690 = some (.iconst 3) := mt_cd_of (q := (690, .iconst 3, 1)) mq_203 ci_203 (List.mem_append_right _ (List.mem_append_right _ (List.mem_append_right _ (List.mem_append_right _ (List.mem_append_right _ (List.mem_append_right _ (List.mem_append_right _ (List.mem_append_left _ (show _ ∈ my_203_7 from List.mem_of_getElem? (i := 3) rfl)))))))))
theorem cd_203_691 : mt_cd 203 691 = some (.iadd) := mt_cd_of (q := (691, .iadd, 1)) mq_203 ci_203 (List.mem_append_right _ (List.mem_append_right _ (List.mem_append_right _ (List.mem_append_right _ (List.mem_append_right _ (List.mem_append_right _ (List.mem_append_right _ (List.mem_append_left _ (show _ ∈ my_203_7 from List.mem_of_getElem? (i := 4) rfl)))))))))
theorem cd_203_692 : mt_cd 203 692 = some (.iaload) := mt_cd_of (q := (692, .iaload, 1)) mq_203 ci_203 (List.mem_append_right _ (List.mem_append_right _ (List.mem_append_right _ (List.mem_append_right _ (List.mem_append_right _ (List.mem_append_right _ (List.mem_append_right _ (List.mem_append_left _ (show _ ∈ my_203_7 from List.mem_of_getElem? (i := 5) rfl)))))))))
theorem cd_203_693 : mt_cd 203 693 = some (.i2l) := mt_cd_of (q := (693, .i2l, 1)) mq_203 ci_203 (List.mem_append_right _ (List.mem_append_right _ (List.mem_append_right _ (List.mem_append_right _ (List.mem_append_right _ (List.mem_append_right _ (List.mem_append_right _ (List.mem_append_left _ (show _ ∈ my_203_7 from List.mem_of_getElem? (i := 6) rfl)))))))))
theorem cd_203_694 : mt_cd 203 694 = some (.bipush 32) := mt_cd_of (q := (694, .bipush 32, 2)) mq_203 ci_203 (List.mem_append_right _ (List.mem_append_right _ (List.mem_append_right _ (List.mem_append_right _ (List.mem_append_right _ (List.mem_append_right _ (List.mem_append_right _ (List.mem_append_left _ (show _ ∈ my_203_7 from List.mem_of_getElem? (i := 7) rfl)))))))))
theorem cd_203_696 : mt_cd 203 696 = some (.lshl) := mt_cd_of (q := (696, .lshl, 1)) mq_203 ci_203 (List.mem_append_right _ (List.mem_append_right _ (List.mem_append_right _ (List.mem_append_right _ (List.mem_append_right _ (List.mem_append_right _ (List.mem_append_right _ (List.mem_append_left _ (show _ ∈ my_203_7 from List.mem_of_getElem? (i := 8) rfl)))))))))
theorem cd_203_697 : mt_cd 203 697 = some (.aload_n 0) := mt_cd_of (q := (697, .aload_n 0, 1)) mq_203 ci_203 (List.mem_append_right _ (List.mem_append_right _ (List.mem_append_right _ (List.mem_append_right _ (List.mem_append_right _ (List.mem_append_right _ (List.mem_append_right _ (List.mem_append_left _ (show _ ∈ my_203_7 from List.mem_of_getElem? (i := 9) rfl)))))))))
theorem cd_203_698 : mt_cd 203 698 = some (.iload 4) := mt_cd_of (q := (698, .iload 4, 2)) mq_203 ci_203 (List.mem_append_right _ (List.mem_append_right _ (List.mem_append_right _ (List.mem_append_right _ (List.mem_append_right _ (List.mem_append_right _ (List.mem_append_right _ (List.mem_append_left _ (show _ ∈ my_203_7 from List.mem_of_getElem? (i := 10) rfl)))))))))
theorem cd_203_700 : mt_cd 203 700 = some (.iconst 4) := mt_cd_of (q := (700, .iconst 4, 1)) mq_203 ci_203 (List.mem_append_right _ (List.mem_append_right _ (List.mem_append_right _ (List.mem_append_right _ (List.mem_append_right _ (List.mem_append_right _ (List.mem_append_right _ (List.mem_append_left _ (show _ ∈ my_203_7 from List.mem_of_getElem? (i := 11) rfl)))))))))
theorem cd_203_701 : mt_cd 203 701 = some (.iadd) := mt_cd_of (q := (701, .iadd, 1)) mq_203 ci_203 (List.mem_append_right _ (List.mem_append_right _ (List.mem_append_right _ (List.mem_append_right _ (List.mem_append_right _ (List.mem_append_right _ (List.mem_append_right _ (List.mem_append_left _ (show _ ∈ my_203_7 from List.mem_of_getElem? (i := 12) rfl)))))))))
theorem cd_203_702 : mt_cd 203 702 = some (.iaload) := mt_cd_of (q := (702, .iaload, 1)) mq_203 ci_203 (List.mem_append_right _ (List.mem_append_right _ (List.mem_append_right _ (List.mem_append_right _ (List.mem_append_right _ (List.mem_append_right _ (List.mem_append_right _ (List.mem_append_left _ (show _ ∈ my_203_7 from List.mem_of_getElem? (i := 13) rfl)))))))))
theorem cd_203_703 : mt_cd 203 703 = some (.i2l) := mt_cd_of (q := (703, .i2l, 1)) mq_203 ci_203 (List.mem_append_right _ (List.mem_append_right _ (List.mem_append_right _ (List.mem_append_right _ (List.mem_append_right _ (List.mem_append_right _ (List.mem_append_right _ (List.mem_append_left _ (show _ ∈ my_203_7 from List.mem_of_getElem? (i := 14) rfl)))))))))
theorem cd_203_704 : mt_cd 203 704 = some (.ldc2_w 86) := mt_cd_of (q := (704, .ldc2_w 86, 3)) mq_203 ci_203 (List.mem_append_right _ (List.mem_append_right _ (List.mem_append_right _ (List.mem_append_right _ (List.mem_append_right _ (List.mem_append_right _ (List.mem_append_right _ (List.mem_append_left _ (show _ ∈ my_203_7 from List.mem_of_getElem? (i := 15) rfl)))))))))
theorem cd_203_707 : mt_cd 203 707 = some (.land) := mt_cd_of (q := (707, .land, 1)) mq_203 ci_203 (List.mem_append_right _ (List.mem_append_right _ (List.mem_append_right _ (List.mem_append_right _ (List.mem_append_right _ (List.mem_append_right _ (List.mem_append_right _ (List.mem_append_left _ (show _ ∈ my_203_7 from List.mem_of_getElem? (i := 16) rfl)))))))))
theorem cd_203_708 : mt_cd 203 708 = some (.lor) := mt_cd_of (q := (708, .lor, 1)) mq_203 ci_203 (List.mem_append_right _ (List.mem_append_right _ (List.mem_append_right _ (List.mem_append_right _ (List.mem_append_right _ (List.mem_append_right _ (List.mem_append_right _ (List.mem_append_left _ (show _ ∈ my_203_7 from List.mem_of_getElem? (i := 17) rfl)))))))))
theorem cd_203_709 : mt_cd 203 709 = some (.aload_n 3) := mt_cd_of (q := (709, .aload_n 3, 1)) mq_203 ci_203 (List.mem_append_right _ (List.mem_append_right _ (List.mem_append_right _ (List.mem_append_right _ (List.mem_append_right _ (List.mem_append_right _ (List.mem_append_right _ (List.mem_append_left _ (show _ ∈ my_203_7 from List.mem_of_getElem? (i := 18) rfl)))))))))
theorem cd_203_710 : mt_cd 203 710 = some (.invokestatic 104) := mt_cd_of (q := (710, .invokestatic 104, 3)) mq_203 ci_203 (List.mem_append_right _ (List.mem_append_right _ (List.mem_append_right _ (List.mem_append_right _ (List.mem_append_right _ (List.mem_append_right _ (List.mem_append_right _ (List.mem_append_left _ (show _ ∈ my_203_7 from List.mem_of_getElem? (i := 19) rfl)))))))))
theorem cd_203_713 : mt_cd 203 713 = some (.istore 5) := mt_cd_of (q := (713, .istore 5, 2)) mq_203 ci_203 (List.mem_append_right _ (List.mem_append_right _ (List.mem_append_right _ (List.mem_append_right _ (List.mem_append_right _ (List.mem_append_right _ (List.mem_append_right _ (List.mem_append_left _ (show _ ∈ my_203_7 from List.mem_of_getElem? (i := 20) rfl)))))))))
theorem cd_203_715 : mt_cd 203 715 = some (.aload_n 2) := mt_cd_of (q := (715, .aload_n 2, 1)) mq_203 ci_203 (List.mem_append_right _ (List.mem_append_right _ (List.mem_append_right _ (List.mem_append_right _ (List.mem_append_right _ (List.mem_append_right _ (List.mem_append_right _ (List.mem_append_left _ (show _ ∈ my_203_7 from List.mem_of_getElem? (i := 21) rfl)))))))))
theorem cd_203_716 : mt_cd 203 716 = some (.aload_n 0) := mt_cd_of (q := (716, .aload_n 0, 1)) mq_203 ci_203 (List.mem_append_right _ (List.mem_append_right _ (List.mem_append_right _ (List.mem_append_right _ (List.mem_append_right _ (List.mem_append_right _ (List.mem_append_right _ (List.mem_append_left _ (show _ ∈ my_203_7 from List.mem_of_getElem? (i := 22) rfl)))))))))
theorem cd_203_717 : mt_cd 203 717 = some (.iload 4) := mt_cd_of (q := (717, .iload 4, 2)) mq_203 ci_203 (List.mem_append_right _ (List.mem_append_right _ (List.mem_append_right _ (List.mem_append_right _ (List.mem_append_right _ (List.mem_append_right _ (List.mem_append_right _ (List.mem_append_left _ (show _ ∈ my_203_7 from List.mem_of_getElem? (i := 23) rfl)))))))))
theorem cd_203_719 : mt_cd 203 719 = some (.iconst 1) := mt_cd_of (q := (719, .iconst 1, 1)) mq_203 ci_203 (List.mem_append_right _ (List.mem_append_right _ (List.mem_append_right _ (List.mem_append_right _ (List.mem_append_right _ (List.mem_append_right _ (List.mem_append_right _ (List.mem_append_left _ (show _ ∈ my_203_7 from List.mem_of_getElem? (i := 24) rfl)))))))))
theorem cd_203_720 : mt_cd 203 720 = some (.iadd) := mt_cd_of (q := (720, .iadd, 1)) mq_203 ci_203 (List.mem_append_right _ (List.mem_append_right _ (List.mem_append_right _ (List.mem_append_right _ (List.mem_append_right _ (List.mem_append_right _ (List.mem_append_right _ (List.mem_append_left _ (show _ ∈ my_203_7 from List.mem_of_getElem? (i := 25) rfl)))))))))
theorem cd_203_721 : mt_cd 203 721 = some (.iaload) := mt_cd_of (q := (721, .iaload, 1)) mq_203 ci_203 (List.mem_append_right _ (List.mem_append_right _ (List.mem_append_right _ (List.mem_append_right _ (List.mem_append_right _ (List.mem_append_right _ (List.mem_append_right _ (List.mem_append_left _ (show _ ∈ my_203_7 from List.mem_of_getElem? (i := 26) rfl)))))))))
theorem cd_203_722 : mt_cd 203 722 = some (.i2l) := mt_cd_of (q := (722, .i2l, 1)) mq_203 ci_203 (List.mem_append_right _ (List.mem_append_right _ (List.mem_append_right _ (List.mem_append_right _ (List.mem_append_right _ (List.mem_append_right _ (List.mem_append_right _ (List.mem_append_left _ (show _ ∈ my_203_7 from List.mem_of_getElem? (i := 27) rfl)))))))))
theorem cd_203_723 : mt_cd 203 723 = some (.bipush 32) := mt_cd_of (q := (723, .bipush 32, 2)) mq_203 ci_203 (List.mem_append_right _ (List.mem_append_right _ (List.mem_append_right _ (List.mem_append_right _ (List.mem_append_right _ (List.mem_append_right _ (List.mem_append_right _ (List.mem_append_left _ (show _ ∈ my_203_7 from List.mem_of_getElem? (i := 28) rfl)))))))))
theorem cd_203_725 : mt_cd 203 725 = some (.lshl) := mt_cd_of (q := (725, .lshl, 1)) mq_203 ci_203 (List.mem_append_right _ (List.mem_append_right _ (List.mem_append_right _ (List.mem_append_right _ (List.mem_append_right _ (List.mem_append_right _ (List.mem_append_right _ (List.mem_append_left _ (show _ ∈ my_203_7 from List.mem_of_getElem? (i := 29) rfl)))))))))
theorem cd_203_726 : mt_cd 203 726 = some (.aload_n 0) := mt_cd_of (q := (726, .aload_n 0, 1)) mq_203 ci_203 (List.mem_append_right _ (List.mem_append_right _ (List.mem_append_right _ (List.mem_append_right _ (List.mem_append_right _ (List.mem_append_right _ (List.mem_append_right _ (List.mem_append_left _ (show _ ∈ my_203_7 from List.mem_of_getElem? (i := 30) rfl)))))))))
theorem cd_203_727 : mt_cd 203 727 = some (.iload 4) := mt_cd_of (q := (727, .iload 4, 2)) mq_203 ci_203 (List.mem_append_right _ (List.mem_append_right _ (List.mem_append_right _ (List.mem_append_right _ (List.mem_append_right _ (List.mem_append_right _ (List.mem_append_right _ (List.mem_append_left _ (show _ ∈ my_203_7 from List.mem_of_getElem? (i := 31) rfl)))))))))
theorem cd_203_729 : mt_cd 203 729 = some (.iconst 2) := mt_cd_of (q := (729, .iconst 2, 1)) mq_203 ci_203 (List.mem_append_right _ (List.mem_append_right _ (List.mem_append_right _ (List.mem_append_right _ (List.mem_append_right _ (List.mem_append_right _ (List.mem_append_right _ (List.mem_append_left _ (show _ ∈ my_203_7 from List.mem_of_getElem? (i := 32) rfl)))))))))
theorem cd_203_730 : mt_cd 203 730 = some (.iadd) := mt_cd_of (q := (730, .iadd, 1)) mq_203 ci_203 (List.mem_append_right _ (List.mem_append_right _ (List.mem_append_right _ (List.mem_append_right _ (List.mem_append_right _ (List.mem_append_right _ (List.mem_append_right _ (List.mem_append_left _ (show _ ∈ my_203_7 from List.mem_of_getElem? (i := 33) rfl)))))))))
theorem cd_203_731 : mt_cd 203 731 = some (.iaload) := mt_cd_of (q := (731, .iaload, 1)) mq_203 ci_203 (List.mem_append_right _ (List.mem_append_right _ (List.mem_append_right _ (List.mem_append_right _ (List.mem_append_right _ (List.mem_append_right _ (List.mem_append_right _ (List.mem_append_left _ (show _ ∈ my_203_7 from List.mem_of_getElem? (i := 34) rfl)))))))))
theorem cd_203_732 : mt_cd 203 732 = some (.i2l) := mt_cd_of (q := (732, .i2l, 1)) mq_203 ci_203 (List.mem_append_right _ (List.mem_append_right _ (List.mem_append_right _ (List.mem_append_right _ (List.mem_append_right _ (List.mem_append_right _ (List.mem_append_right _ (List.mem_append_left _ (show _ ∈ my_203_7 from List.mem_of_getElem? (i := 35) rfl)))))))))
theorem cd_203_733 : mt_cd 203 733 = some (.ldc2_w 86) := mt_cd_of (q := (733, .ldc2_w 86, 3)) mq_203 ci_203 (List.mem_append_right _ (List.mem_append_right _ (List.mem_append_right _ (List.mem_append_right _ (List.mem_append_right _ (List.mem_append_right _ (List.mem_append_right _ (List.mem_append_left _ (show _ ∈ my_203_7 from List.mem_of_getElem? (i := 36) rfl)))))))))
theorem cd_203_736 : mt_cd 203 736 = some (.land) := mt_cd_of (q := (736, .land, 1)) mq_203 ci_203 (List.mem_append_right _ (List.mem_append_right _ (List.mem_append_right _ (List.mem_append_right _ (List.mem_append_right _ (List.mem_append_right _ (List.mem_append_right _ (List.mem_append_left _ (show _ ∈ my_203_7 from List.mem_of_getElem? (i := 37) rfl)))))))))
theorem cd_203_737 : mt_cd 203 737 = some (.lor) := mt_cd_of (q := (737, .lor, 1)) mq_203 ci_203 (List.mem_append_right _ (List.mem_append_right _ (List.mem_append_right _ (List.mem_append_right _ (List.mem_append_right _ (List.mem_append_right _ (List.mem_append_right _ (List.mem_append_left _ (show _ ∈ my_203_7 from List.mem_of_getElem? (i := 38) rfl)))))))))
theorem cd_203_738 : mt_cd 203 738 = some (.aload_n 0) := mt_cd_of (q := (738, .aload_n 0, 1)) mq_203 ci_203 (List.mem_append_right _ (List.mem_append_right _ (List.mem_append_right _ (List.mem_append_right _ (List.mem_append_right _ (List.mem_append_right _ (List.mem_append_right _ (List.mem_append_left _ (show _ ∈ my_203_7 from List.mem_of_getElem? (i := 39) rfl)))))))))
theorem cd_203_739 : mt_cd 203 739 = some (.iload 4) := mt_cd_of (q := (739, .iload 4, 2)) mq_203 ci_203 (List.mem_append_right _ (List.mem_append_right _ (List.mem_append_right _ (List.mem_append_right _ (List.mem_append_right _ (List.mem_append_right _ (List.mem_append_right _ (List.mem_append_left _ (show _ ∈ my_203_7 from List.mem_of_getElem? (i := 40) rfl)))))))))
theorem cd_203_741 : mt_cd 203 741 = some (.iconst 3) := mt_cd_of (q := (741, .iconst 3, 1)) mq_203 ci_203 (List.mem_append_right _ (List.mem_append_right _ (List.mem_append_right _ (List.mem_append_right _ (List.mem_append_right _ (List.mem_append_right _ (List.mem_append_right _ (List.mem_append_left _ (show _ ∈ my_203_7 from List.mem_of_getElem? (i := 41) rfl)))))))))
theorem cd_203_742 : mt_cd 203 742 = some (.iadd) := mt_cd_of (q := (742, .iadd, 1)) mq_203 ci_203 (List.mem_append_right _ (List.mem_append_right _ (List.mem_append_right _ (List.mem_append_right _ (List.mem_append_right _ (List.mem_append_right _ (List.mem_append_right _ (List.mem_append_left _ (show _ ∈ my_203_7 from List.mem_of_getElem? (i := 42) rfl)))))))))
theorem cd_203_743 : mt_cd 203 743 = some (.iaload) := mt_cd_of (q := (743, .iaload, 1)) mq_203 ci_203 (List.mem_append_right _ (List.mem_append_right _ (List.mem_append_right _ (List.mem_append_right _ (List.mem_append_right _ (List.mem_append_right _ (List.mem_append_right _ (List.mem_append_left _ (show _ ∈ my_203_7 from List.mem_of_getElem? (i := 43) rfl)))))))))
theorem cd_203_744 : mt_cd 203 744 = some (.i2l) := mt_cd_of (q := (744, .i2l, 1)) mq_203 ci_203 (List.mem_append_right _ (List.mem_append_right _ (List.mem_append_right _ (List.mem_append_right _ (List.mem_append_right _ (List.mem_append_right _ (List.mem_append_right _ (List.mem_append_left _ (show _ ∈ my_203_7 from List.mem_of_getElem? (i := 44) rfl)))))))))
theorem cd_203_745 : mt_cd 203 745 = some (.bipush 32) := mt_cd_of (q := (745, .bipush 32, 2)) mq_203 ci_203 (List.mem_append_right _ (List.mem_append_right _ (List.mem_append_right _ (List.mem_append_right _ (List.mem_append_right _ (List.mem_append_right _ (List.mem_append_right _ (List.mem_append_left _ (show _ ∈ my_203_7 from List.mem_of_getElem? (i := 45) rfl)))))))))
theorem cd_203_747 : mt_cd 203 747 = some (.lshl) := mt_cd_of (q := (747, .lshl, 1)) mq_203 ci_203 (List.mem_append_right _ (List.mem_append_right _ (List.mem_append_right _ (List.mem_append_right _ (List.mem_append_right _ (List.mem_append_right _ (List.mem_append_right _ (List.mem_append_left _ (show _ ∈ my_203_7 from List.mem_of_getElem? (i := 46) rfl)))))))))
theorem cd_203_748 : mt_cd 203 748 = some (.aload_n 0) := mt_cd_of (q := (748, .aload_n 0, 1)) mq_203 ci_203 (List.mem_append_right _ (List.mem_append_right _ (List.mem_append_right _ (List.mem_append_right _ (List.mem_append_right _ (List.mem_append_right _ (List.mem_append_right _ (List.mem_append_left _ (show _ ∈ my_203_7 from List.mem_of_getElem? (i := 47) rfl)))))))))
theorem cd_203_749 : mt_cd 203 749 = some (.iload 4) := mt_cd_of (q := (749, .iload 4, 2)) mq_203 ci_203 (List.mem_append_right _ (List.mem_append_right _ (List.mem_append_right _ (List.mem_append_right _ (List.mem_append_right _ (List.mem_append_right _ (List.mem_append_right _ (List.mem_append_left _ (show _ ∈ my_203_7 from List.mem_of_getElem? (i := 48) rfl)))))))))
theorem cd_203_751 : mt_cd 203 751 = some (.iconst 4) := mt_cd_of (q := (751, .iconst 4, 1)) mq_203 ci_203 (List.mem_append_right _ (List.mem_append_right _ (List.mem_append_right _ (List.mem_append_right _ (List.mem_append_right _ (List.mem_append_right _ (List.mem_append_right _ (List.mem_append_left _ (show _ ∈ my_203_7 from List.mem_of_getElem? (i := 49) rfl)))))))))
theorem cd_203_752 : mt_cd 203 752 = some (.iadd) := mt_cd_of (q := (752, .iadd, 1)) mq_203 ci_203 (List.mem_append_right _ (List.mem_append_right _ (List.mem_append_right _ (List.mem_append_right _ (List.mem_append_right _ (List.mem_append_right _ (List.mem_append_right _ (List.mem_append_left _ (show _ ∈ my_203_7 from List.mem_of_getElem? (i := 50) rfl)))))))))
theorem cd_203_753 : mt_cd 203 753 = some (.iaload) := mt_cd_of (q := (753, .iaload, 1)) mq_203 ci_203 (List.mem_append_right _ (List.mem_append_right _ (List.mem_append_right _ (List.mem_append_right _ (List.mem_append_right _ (List.mem_append_right _ (List.mem_append_right _ (List.mem_append_left _ (show _ ∈ my_203_7 from List.mem_of_getElem? (i := 51) rfl)))))))))
theorem cd_203_754 : mt_cd 203 754 = some (.i2l) := mt_cd_of (q := (754, .i2l, 1)) mq_203 ci_203 (List.mem_append_right _ (List.mem_append_right _ (List.mem_append_right _ (List.mem_append_right _ (List.mem_append_right _ (List.mem_append_right _ (List.mem_append_right _ (List.mem_append_left _ (show _ ∈ my_203_7 from List.mem_of_getElem? (i := 52) rfl)))))))))
theorem cd_203_755 : mt_cd 203 755 = some (.ldc2_w 86) := mt_cd_of (q := (755, .ldc2_w 86, 3)) mq_203 ci_203 (List.mem_append_right _ (List.mem_append_right _ (List.mem_append_right _ (List.mem_append_right _ (List.mem_append_right _ (List.mem_append_right _ (List.mem_append_right _ (List.mem_append_left _ (show _ ∈ my_203_7 from List.mem_of_getElem? (i := 53) rfl)))))))))
theorem cd_203_758 : mt_cd 203 758 = some (.land) := mt_cd_of (q := (758, .land, 1)) mq_203 ci_203 (List.mem_append_right _ (List.mem_append_right _ (List.mem_append_right _ (List.mem_append_right _ (List.mem_append_right _ (List.mem_append_right _ (List.mem_append_right _ (List.mem_append_left _ (show _ ∈ my_203_7 from List.mem_of_getElem? (i := 54) rfl)))))))))
theorem cd_203_759 : mt_cd 203 759 = some (.lor) := mt_cd_of (q := (759, .lor, 1)) mq_203 ci_203 (List.mem_append_right _ (List.mem_append_right _ (List.mem_append_right _ (List.mem_append_right _ (List.mem_append_right _ (List.mem_append_right _ (List.mem_append_right _ (List.mem_append_left _ (show _ ∈ my_203_7 from List.mem_of_getElem? (i := 55) rfl)))))))))
theorem cd_203_760 : mt_cd 203 760 = some (.invokevirtual 107) := mt_cd_of (q := (760, .invokevirtual 107, 3)) mq_203 ci_203 (List.mem_append_right _ (List.mem_append_right _ (List.mem_append_right _ (List.mem_append_right _ (List.mem_append_right _ (List.mem_append_right _ (List.mem_append_right _ (List.mem_append_left _ (show _ ∈ my_203_7 from List.mem_of_getElem? (i := 56) rfl)))))))))
theorem cd_203_763 : mt_cd 203 763 = some (.istore 6) := mt_cd_of (q := (763, .istore 6, 2)) mq_203 ci_203 (List.mem_append_right _ (List.mem_append_right _ (List.mem_append_right _ (List.mem_append_right _ (List.mem_append_right _ (List.mem_append_right _ (List.mem_append_right _ (List.mem_append_left _ (show _ ∈ my_203_7 from List.mem_of_getElem? (i := 57) rfl)))))))))
theorem cd_203_765 : mt_cd 203 765 = some (.aload_n 2) := mt_cd_of (q := (765, .aload_n 2, 1)) mq_203 ci_203 (List.mem_append_right _ (List.mem_append_right _ (List.mem_append_right _ (List.mem_append_right _ (List.mem_append_right _ (List.mem_append_right _ (List.mem_append_right _ (List.mem_append_left _ (show _ ∈ my_203_7 from List.mem_of_getElem? (i := 58) rfl)))))))))
theorem cd_203_766 : mt_cd 203 766 = some (.invokevirtual 75) := mt_cd_of (q := (766, .invokevirtual 75, 3)) mq_203 ci_203 (List.mem_append_right _ (List.mem_append_right _ (List.mem_append_right _ (List.mem_append_right _ (List.mem_append_right _ (List.mem_append_right _ (List.mem_append_right _ (List.mem_append_left _ (show _ ∈ my_203_7 from List.mem_of_getElem? (i := 59) rfl)))))))))
theorem cd_203_769 : mt_cd 203 769 = some (.iload 5) := mt_cd_of (q := (769, .iload 5, 2)) mq_203 ci_203 (List.mem_append_right _ (List.mem_append_right _ (List.mem_append_right _ (List.mem_append_right _ (List.mem_append_right _ (List.mem_append_right _ (List.mem_append_right _ (List.mem_append_right _ (List.mem_append_left _ (show _ ∈ my_203_8 from List.mem_of_getElem? (i := 0) rfl))))))))))
theorem cd_203_771 : mt_cd 203 771 = some (.if_icmp .eq 5) := mt_cd_of (q := (771, .if_icmp .eq 5, 3)) mq_203 ci_203 (List.mem_append_right _ (List.mem_append_right _ (List.mem_append_right _ (List.mem_append_right _ (List.mem_append_right _ (List.mem_append_right _ (List.mem_append_right _ (List.mem_append_right _ (List.mem_append_left _ (show _ ∈ my_203_8 from List.mem_of_getElem? (i := 1) rfl))))))))))
theorem cd_203_774 : mt_cd 203 774 = some (.iconst 0) := mt_cd_of (q := (774, .iconst 0, 1)) mq_203 ci_203 (List.mem_append_right _ (List.mem_append_right _ (List.mem_append_right _ (List.mem_append_right _ (List.mem_append_right _ (List.mem_append_right _ (List.mem_append_right _ (List.mem_append_right _ (List.mem_append_left _ (show _ ∈ my_203_8 from List.mem_of_getElem? (i := 2) rfl))))))))))
theorem cd_203_775 : mt_cd 203 775 = some (.ireturn) := mt_cd_of (q := (775, .ireturn, 1)) mq_203 ci_203 (List.mem_append_right _ (List.mem_append_right _ (List.mem_append_right _ (List.mem_append_right _ (List.mem_append_right _ (List.mem_append_right _ (List.mem_append_right _ (List.mem_append_right _ (List.mem_append_left _ (show _ ∈ my_203_8 from List.mem_of_getElem? (i := 3) rfl))))))))))
theorem cd_203_776 : mt_cd 203 776 = some (.iload 5) := mt_cd_of (q := (776, .iload 5, 2)) mq_203 ci_203 (List.mem_append_right _ (List.mem_append_right _ (List.mem_append_right _ (List.mem_append_right _ (List.mem_append_right _ (List.mem_append_right _ (List.mem_append_right _ (List.mem_append_right _ (List.mem_append_left _ (show _ ∈ my_203_8 from List.mem_of_getElem? (i := 4) rfl))))))))))
theorem cd_203_778 : mt_cd 203 778 = some (.ifCond .ne 15) := mt_cd_of (q := (778, .ifCond .ne 15, 3)) mq_203 ci_203 (List.mem_append_right _ (List.mem_append_right _ (List.mem_append_right _ (List.mem_append_right _ (List.mem_append_right _ (List.mem_append_right _ (List.mem_append_right _ (List.mem_append_right _ (List.mem_append_left _ (show _ ∈ my_203_8 from List.mem_of_getElem? (i := 5) rfl))))))))))
theorem cd_203_781 : mt_cd 203 781 = some (.aload_n 3) := mt_cd_of (q := (781, .aload_n 3, 1)) mq_203 ci_203 (List.mem_append_right _ (List.mem_append_right _ (List.mem_append_right _ (List.mem_append_right _ (List.mem_append_right _ (List.mem_append_right _ (List.mem_append_right _ (List.mem_append_right _ (List.mem_append_left _ (show _ ∈ my_203_8 from List.mem_of_getElem? (i := 6) rfl))))))))))
theorem cd_203_782 : mt_cd 203 782 = some (.iconst 0) := mt_cd_of (q := (782, .iconst 0, 1)) mq_203 ci_203 (List.mem_append_right _ (List.mem_append_right _ (List.mem_append_right _ (List.mem_append_right _ (List.mem_append_right _ (List.mem_append_right _ (List.mem_append_right _ (List.mem_append_right _ (List.mem_append_left _ (show _ ∈ my_203_8 from List.mem_of_getElem? (i := 7) rfl))))))))))
theorem cd_203_783 : mt_cd 203 783 = some (.laload) := mt_cd_of (q := (783, .laload, 1)) mq_203 ci_203 (List.mem_append_right _ (List.mem_append_right _ (List.mem_append_right _ (List.mem_append_right _ (List.mem_append_right _ (List.mem_append_right _ (List.mem_append_right _ (List.mem_append_right _ (List.mem_append_left _ (show _ ∈ my_203_8 from List.mem_of_getElem? (i := 8) rfl))))))))))
theorem cd_203_784 : mt_cd 203 784 = some (.iload 6) := mt_cd_of (q := (784, .iload 6, 2)) mq_203 ci_203 (List.mem_append_right _ (List.mem_append_right _ (List.mem_append_right _ (List.mem_append_right _ (List.mem_append_right _ (List.mem_append_right _ (List.mem_append_right _ (List.mem_append_right _ (List.mem_append_left _ (show _ ∈ my_203_8 from List.mem_of_getElem? (i := 9) rfl))))))))))
theorem cd_203_786 : mt_cd 203 786 = some (.i2l) := mt_cd_of (q := (786, .i2l, 1)) mq_203 ci_203 (List.mem_append_right _ (List.mem_append_right _ (List.mem_append_right _ (List.mem_append_right _ (List.mem_append_right _ (List.mem_append_right _ (List.mem_append_right _ (List.mem_append_right _ (List.mem_append_left _ (show _ ∈ my_203_8 from List.mem_of_getElem? (i := 10) rfl))))))))))
theorem cd_203_787 : mt_cd 203 787 = some (.lcmp) := mt_cd_of (q := (787, .lcmp, 1)) mq_203 ci_203 (List.mem_append_right _ (List.mem_append_right _ (List.mem_append_right _ (List.mem_append_right _ (List.mem_append_right _ (List.mem_append_right _ (List.mem_append_right _ (List.mem_append_right _ (List.mem_append_left _ (show _ ∈ my_203_8 from List.mem_of_getElem? (i := 11) rfl))))))))))
theorem cd_203_788 : mt_cd 203 788 = some (.ifCond .eq 5) := mt_cd_of (q := (788, .ifCond .eq 5, 3)) mq_203 ci_203 (List.mem_append_right _ (List.mem_append_right _ (List.mem_append_right _ (List.mem_append_right _ (List.mem_append_right _ (List.mem_append_right _ (List.mem_append_right _ (List.mem_append_right _ (List.mem_append_left _ (show _ ∈ my_203_8 from List.mem_of_getElem? (i := 12) rfl))))))))))
theorem cd_203_791 : mt_cd 203 791 = some (.iconst 0) := mt_cd_of (q := (791, .iconst 0, 1)) mq_203 ci_203 (List.mem_append_right _ (List.mem_append_right _ (List.mem_append_right _ (List.mem_append_right _ (List.mem_append_right _ (List.mem_append_right _ (List.mem_append_right _ (List.mem_append_right _ (List.mem_append_left _ (show _ ∈ my_203_8 from List.mem_of_getElem? (i := 13) rfl))))))))))
theorem cd_203_792 : mt_cd 203 792 = some (.ireturn) := mt_cd_of (q := (792, .ireturn, 1)) mq_203 ci_203 (List.mem_append_right _ (List.mem_append_right _ (List.mem_append_right _ (List.mem_append_right _ (List.mem_append_right _ (List.mem_append_right _ (List.mem_append_right _ (List.mem_append_right _ (List.mem_append_left _ (show _ ∈ my_203_8 from List.mem_of_getElem? (i := 14) rfl))))))))))
theorem cd_203_793 : mt_cd 203 793 = some (.goto 372) := mt_cd_of (q := (793, .goto 372, 3)) mq_203 ci_203 (List.mem_append_right _ (List.mem_append_right _ (List.mem_append_right _ (List.mem_append_right _ (List.mem_append_right _ (List.mem_append_right _ (List.mem_append_right _ (List.mem_append_right _ (List.mem_append_left _ (show _ ∈ my_203_8 from List.mem_of_getElem? (i := 15) rfl))))))))))
theorem cd_203_796 : mt_cd 203 796 = some (.aload_n 1) := mt_cd_of (q := (796, .aload_n 1, 1)) mq_203 ci_203 (List.mem_append_right _ (List.mem_append_right _ (List.mem_append_right _ (List.mem_append_right _ (List.mem_append_right _ (List.mem_append_right _ (List.mem_append_right _ (List.mem_append_right _ (List.mem_append_left _ (show _ ∈ my_203_8 from List.mem_of_getElem? (i := 16) rfl))))))))))
theorem cd_203_797 : mt_cd 203 797 = some (.aload_n 0) := mt_cd_of (q := (797, .aload_n 0, 1)) mq_203 ci_203 (List.mem_append_right _ (List.mem_append_right _ (List.mem_append_right _ (List.mem_append_right _ (List.mem_append_right _ (List.mem_append_right _ (List.mem_append_right _ (List.mem_append_right _ (List.mem_append_left _ (show _ ∈ my_203_8 from List.mem_of_getElem? (i := 17) rfl))))))))))
theorem cd_203_798 : mt_cd 203 798 = some (.iload 4) := mt_cd_of (q := (798, .iload 4, 2)) mq_203 ci_203 (List.mem_append_right _ (List.mem_append_right _ (List.mem_append_right _ (List.mem_append_right _ (List.mem_append_right _ (List.mem_append_right _ (List.mem_append_right _ (List.mem_append_right _ (List.mem_append_left _ (show _ ∈ my_203_8 from List.mem_of_getElem? (i := 18) rfl))))))))))
theorem cd_203_800 : mt_cd 203 800 = some (.iconst 1) := mt_cd_of (q := (800, .iconst 1, 1)) mq_203 ci_203 (List.mem_append_right _ (List.mem_append_right _ (List.mem_append_right _ (List.mem_append_right _ (List.mem_append_right _ (List.mem_append_right _ (List.mem_append_right _ (List.mem_append_right _ (List.mem_append_left _ (show _ ∈ my_203_8 from List.mem_of_getElem? (i := 19) rfl))))))))))
theorem cd_203_801 : mt_cd 203 801 = some (.iadd) := mt_cd_of (q := (801, .iadd, 1)) mq_203 ci_203 (List.mem_append_right _ (List.mem_append_right _ (List.mem_append_right _ (List.mem_append_right _ (List.mem_append_right _ (List.mem_append_right _ (List.mem_append_right _ (List.mem_append_right _ (List.mem_append_left _ (show _ ∈ my_203_8 from List.mem_of_getElem? (i := 20) rfl))))))))))
theorem cd_203_802 : mt_cd 203 802 = some (.iaload) := mt_cd_of (q := (802, .iaload, 1)) mq_203 ci_203 (List.mem_append_right _ (List.mem_append_right _ (List.mem_append_right _ (List.mem_append_right _ (List.mem_append_right _ (List.mem_append_right _ (List.mem_append_right _ (List.mem_append_right _ (List.mem_append_left _ (show _ ∈ my_203_8 from List.mem_of_getElem? (i := 21) rfl))))))))))
theorem cd_203_803 : mt_cd 203 803 = some (.aload_n 0) := mt_cd_of (q := (803, .aload_n 0, 1)) mq_203 ci_203 (List.mem_append_right _ (List.mem_append_right _ (List.mem_append_right _ (List.mem_append_right _ (List.mem_append_right _ (List.mem_append_right _ (List.mem_append_right _ (List.mem_append_right _ (List.mem_append_left _ (show _ ∈ my_203_8 from List.mem_of_getElem? (i := 22) rfl))))))))))
theorem cd_203_804 : mt_cd 203 804 = some (.iload 4) := mt_cd_of (q := (804, .iload 4, 2)) mq_203 ci_203 (List.mem_append_right _ (List.mem_append_right _ (List.mem_append_right _ (List.mem_append_right _ (List.mem_append_right _ (List.mem_append_right _ (List.mem_append_right _ (List.mem_append_right _ (List.mem_append_left _ (show _ ∈ my_203_8 from List.mem_of_getElem? (i := 23) rfl))))))))))
theorem cd_203_806 : mt_cd 203 806 = some (.iconst 2) := mt_cd_of (q := (806, .iconst 2, 1)) mq_203 ci_203 (List.mem_append_right _ (List.mem_append_right _ (List.mem_append_right _ (List.mem_append_right _ (List.mem_append_right _ (List.mem_append_right _ (List.mem_append_right _ (List.mem_append_right _ (List.mem_append_left _ (show _ ∈ my_203_8 from List.mem_of_getElem? (i := 24) rfl))))))))))
theorem cd_203_807 : mt_cd 203 807 = some (.iadd) := mt_cd_of (q := (807, .iadd, 1)) mq_203 ci_203 (List.mem_append_right _ (List.mem_append_right _ (List.mem_append_right _ (List.mem_append_right _ (List.mem_append_right _ (List.mem_append_right _ (List.mem_append_right _ (List.mem_append_right _ (List.mem_append_left _ (show _ ∈ my_203_8 from List.mem_of_getElem? (i := 25) rfl))))))))))
theorem cd_203_808 : mt_cd 203 808 = some (.iaload) := mt_cd_of (q := (808, .iaload, 1)) mq_203 ci_203 (List.mem_append_right _ (List.mem_append_right _ (List.mem_append_right _ (List.mem_append_right _ (List.mem_append_right _ (List.mem_append_right _ (List.mem_append_right _ (List.mem_append_right _ (List.mem_append_left _ (show _ ∈ my_203_8 from List.mem_of_getElem? (i := 26) rfl))))))))))
theorem cd_203_809 : mt_cd 203 809 = some (.aload_n 3) := mt_cd_of (q := (809, .aload_n 3, 1)) mq_203 ci_203 (List.mem_append_right _ (List.mem_append_right _ (List.mem_append_right _ (List.mem_append_right _ (List.mem_append_right _ (List.mem_append_right _ (List.mem_append_right _ (List.mem_append_right _ (List.mem_append_left _ (show _ ∈ my_203_8 from List.mem_of_getElem? (i := 27) rfl))))))))))
theorem cd_203_810 : mt_cd 203 810 = some (.invokestatic 108) := mt_cd_of (q := (810, .invokestatic 108, 3)) mq_203 ci_203 (List.mem_append_right _ (List.mem_append_right _ (List.mem_append_right _ (List.mem_append_right _ (List.mem_append_right _ (List.mem_append_right _ (List.mem_append_right _ (List.mem_append_right _ (List.mem_append_left _ (show _ ∈ my_203_8 from List.mem_of_getElem? (i := 28) rfl))))))))))
theorem cd_203_813 : mt_cd 203 813 = some (.istore 5) := mt_cd_of (q := (813, .istore 5, 2)) mq_203 ci_203 (List.mem_append_right _ (List.mem_append_right _ (List.mem_append_right _ (List.mem_append_right _ (List.mem_append_right _ (List.mem_append_right _ (List.mem_append_right _ (List.mem_append_right _ (List.mem_append_left _ (show _ ∈ my_203_8 from List.mem_of_getElem? (i := 29) rfl))))))))))
theorem cd_203_815 : mt_cd 203 815 = some (.aload_n 2) := mt_cd_of (q := (815, .aload_n 2, 1)) mq_203 ci_203 (List.mem_append_right _ (List.mem_append_right _ (List.mem_append_right _ (List.mem_append_right _ (List.mem_append_right _ (List.mem_append_right _ (List.mem_append_right _ (List.mem_append_right _ (List.mem_append_left _ (show _ ∈ my_203_8 from List.mem_of_getElem? (i := 30) rfl))))))))))
theorem cd_203_816 : mt_cd 203 816 = some (.aload_n 0) := mt_cd_of (q := (816, .aload_n 0, 1)) mq_203 ci_203 (List.mem_append_right _ (List.mem_append_right _ (List.mem_append_right _ (List.mem_append_right _ (List.mem_append_right _ (List.mem_append_right _ (List.mem_append_right _ (List.mem_append_right _ (List.mem_append_left _ (show _ ∈ my_203_8 from List.mem_of_getElem? (i := 31) rfl))))))))))
theorem cd_203_817 : mt_cd 203 817 = some (.iload 4) := mt_cd_of (q := (817, .iload 4, 2)) mq_203 ci_203 (List.mem_append_right _ (List.mem_append_right _ (List.mem_append_right _ (List.mem_append_right _ (List.mem_append_right _ (List.mem_append_right _ (List.mem_append_right _ (List.mem_append_right _ (List.mem_append_left _ (show _ ∈ my_203_8 from List.mem_of_getElem? (i := 32) rfl))))))))))
theorem cd_203_819 : mt_cd 203 819 = some (.iconst 1) := mt_cd_of (q := (819, .iconst 1, 1)) mq_203 ci_203 (List.mem_append_right _ (List.mem_append_right _ (List.mem_append_right _ (List.mem_append_right _ (List.mem_append_right _ (List.mem_append_right _ (List.mem_append_right _ (List.mem_append_right _ (List.mem_append_left _ (show _ ∈ my_203_8 from List.mem_of_getElem? (i := 33) rfl))))))))))
theorem cd_203_820 : mt_cd 203 820 = some (.iadd) := mt_cd_of (q := (820, .iadd, 1)) mq_203 ci_203 (List.mem_append_right _ (List.mem_append_right _ (List.mem_append_right _ (List.mem_append_right _ (List.mem_append_right _ (List.mem_append_right _ (List.mem_append_right _ (List.mem_append_right _ (List.mem_append_left _ (show _ ∈ my_203_8 from List.mem_of_getElem? (i := 34) rfl))))))))))
theorem cd_203_821 : mt_cd 203 821 = some (.iaload) := mt_cd_of (q := (821, .iaload, 1)) mq_203 ci_203 (List.mem_append_right _ (List.mem_append_right _ (List.mem_append_right _ (List.mem_append_right _ (List.mem_append_right _ (List.mem_append_right _ (List.mem_append_right _ (List.mem_append_right _ (List.mem_append_left _ (show _ ∈ my_203_8 from List.mem_of_getElem? (i := 35) rfl))))))))))
theorem cd_203_822 : mt_cd 203 822 = some (.aload_n 0) := mt_cd_of (q := (822, .aload_n 0, 1)) mq_203 ci_203 (List.mem_append_right _ (List.mem_append_right _ (List.mem_append_right _ (List.mem_append_right _ (List.mem_append_right _ (List.mem_append_right _ (List.mem_append_right _ (List.mem_append_right _ (List.mem_append_left _ (show _ ∈ my_203_8 from List.mem_of_getElem? (i := 36) rfl))))))))))
theorem cd_203_823 : mt_cd 203 823 = some (.iload 4) := mt_cd_of (q := (823, .iload 4, 2)) mq_203 ci_203 (List.mem_append_right _ (List.mem_append_right _ (List.mem_append_right _ (List.mem_append_right _ (List.mem_append_right _ (List.mem_append_right _ (List.mem_append_right _ (List.mem_append_right _ (List.mem_append_left _ (show _ ∈ my_203_8 from List.mem_of_getElem? (i := 37) rfl))))))))))
theorem cd_203_825 : mt_cd 203 825 = some (.iconst 2) := mt_cd_of (q := (825, .iconst 2, 1)) mq_203 ci_203 (List.mem_append_right _ (List.mem_append_right _ (List.mem_append_right _ (List.mem_append_right _ (List.mem_append_right _ (List.mem_append_right _ (List.mem_append_right _ (List.mem_append_right _ (List.mem_append_left _ (show _ ∈ my_203_8 from List.mem_of_getElem? (i := 38) rfl))))))))))
theorem cd_203_826 : mt_cd 203 826 = some (.iadd) := mt_cd_of (q := (826, .iadd, 1)) mq_203 ci_203 (List.mem_append_right _ (List.mem_append_right _ (List.mem_append_right _ (List.mem_append_right _ (List.mem_append_right _ (List.mem_append_right _ (List.mem_append_right _ (List.mem_append_right _ (List.mem_append_left _ (show _ ∈ my_203_8 from List.mem_of_getElem? (i := 39) rfl))))))))))
theorem cd_203_827 : mt_cd 203 827 = some (.iaload) := mt_cd_of (q := (827, .iaload, 1)) mq_203 ci_203 (List.mem_append_right _ (List.mem_append_right _ (List.mem_append_right _ (List.mem_append_right _ (List.mem_append_right _ (List.mem_append_right _ (List.mem_append_right _ (List.mem_append_right _ (List.mem_append_left _ (show _ ∈ my_203_8 from List.mem_of_getElem? (i := 40) rfl))))))))))
theorem cd_203_828 : mt_cd 203 828 = some (.invokevirtual 111) := mt_cd_of (q := (828, .invokevirtual 111, 3)) mq_203 ci_203 (List.mem_append_right _ (List.mem_append_right _ (List.mem_append_right _ (List.mem_append_right _ (List.mem_append_right _ (List.mem_append_right _ (List.mem_append_right _ (List.mem_append_right _ (List.mem_append_left _ (show _ ∈ my_203_8 from List.mem_of_getElem? (i := 41) rfl))))))))))
theorem cd_203_831 : mt_cd 203 831 = some (.istore 6) := mt_cd_of (q := (831, .istore 6, 2)) mq_203 ci_203 (List.mem_append_right _ (List.mem_append_right _ (List.mem_append_right _ (List.mem_append_right _ (List.mem_append_right _ (List.mem_append_right _ (List.mem_append_right _ (List.mem_append_right _ (List.mem_append_left _ (show _ ∈ my_203_8 from List.mem_of_getElem? (i := 42) rfl))))))))))
theorem cd_203_833 : mt_cd 203 833 = some (.aload_n 2) := mt_cd_of (q := (833, .aload_n 2, 1)) mq_203 ci_203 (List.mem_append_right _ (List.mem_append_right _ (List.mem_append_right _ (List.mem_append_right _ (List.mem_append_right _ (List.mem_append_right _ (List.mem_append_right _ (List.mem_append_right _ (List.mem_append_left _ (show _ ∈ my_203_8 from List.mem_of_getElem? (i := 43) rfl))))))))))
theorem cd_203_834 : mt_cd 203 834 = some (.invokevirtual 75) := mt_cd_of (q := (834, .invokevirtual 75, 3)) mq_203 ci_203 (List.mem_append_right _ (List.mem_append_right _ (List.mem_append_right _ (List.mem_append_right _ (List.mem_append_right _ (List.mem_append_right _ (List.mem_append_right _ (List.mem_append_right _ (List.mem_append_left _ (show _ ∈ my_203_8 from List.mem_of_getElem? (i := 44) rfl))))))))))
theorem cd_203_837 : mt_cd 203 837 = some (.iload 5) := mt_cd_of (q := (837, .iload 5, 2)) mq_203 ci_203 (List.mem_append_right _ (List.mem_append_right _ (List.mem_append_right _ (List.mem_append_right _ (List.mem_append_right _ (List.mem_append_right _ (List.mem_append_right _ (List.mem_append_right _ (List.mem_append_left _ (show _ ∈ my_203_8 from List.mem_of_getElem? (i := 45) rfl))))))))))
theorem cd_203_839 : mt_cd 203 839 = some (.if_icmp .eq 5) := mt_cd_of (q := (839, .if_icmp .eq 5, 3)) mq_203 ci_203 (List.mem_append_right _ (List.mem_append_right _ (List.mem_append_right _ (List.mem_append_right _ (List.mem_append_right _ (List.mem_append_right _ (List.mem_append_right _ (List.mem_append_right _ (List.mem_append_left _ (show _ ∈ my_203_8 from List.mem_of_getElem? (i := 46) rfl))))))))))
theorem cd_203_842 : mt_cd 203 842 = some (.iconst 0) := mt_cd_of (q := (842, .iconst 0, 1)) mq_203 ci_203 (List.mem_append_right _ (List.mem_append_right _ (List.mem_append_right _ (List.mem_append_right _ (List.mem_append_right _ (List.mem_append_right _ (List.mem_append_right _ (List.mem_append_right _ (List.mem_append_left _ (show _ ∈ my_203_8 from List.mem_of_getElem? (i := 47) rfl))))))))))
theorem cd_203_843 : mt_cd 203 843 = some (.ireturn) := mt_cd_of (q := (843, .ireturn, 1)) mq_203 ci_203 (List.mem_append_right _ (List.mem_append_right _ (List.mem_append_right _ (List.mem_append_right _ (List.mem_append_right _ (List.mem_append_right _ (List.mem_append_right _ (List.mem_append_right _ (List.mem_append_left _ (show _ ∈ my_203_8 from List.mem_of_getElem? (i := 48) rfl))))))))))
theorem cd_203_844 : mt_cd 203 844 = some (.iload 5) := mt_cd_of (q := (844, .iload 5, 2)) mq_203 ci_203 (List.mem_append_right _ (List.mem_append_right _ (List.mem_append_right _ (List.mem_append_right _ (List.mem_append_right _ (List.mem_append_right _ (List.mem_append_right _ (List.mem_append_right _ (List.mem_append_left _ (show _ ∈ my_203_8 from List.mem_of_getElem? (i := 49) rfl))))))))))
theorem cd_203_846 : mt_cd 203 846 = some (.ifCond .ne 15) := mt_cd_of (q := (846, .ifCond .ne 15, 3)) mq_203 ci_203 (List.mem_append_right _ (List.mem_append_right _ (List.mem_append_right _ (List.mem_append_right _ (List.mem_append_right _ (List.mem_append_right _ (List.mem_append_right _ (List.mem_append_right _ (List.mem_append_left _ (show _ ∈ my_203_8 from List.mem_of_getElem? (i := 50) rfl))))))))))
theorem cd_203_849 : mt_cd 203 849 = some (.aload_n 3) := mt_cd_of (q := (849, .aload_n 3, 1)) mq_203 ci_203 (List.mem_append_right _ (List.mem_append_right _ (List.mem_append_right _ (List.mem_append_right _ (List.mem_append_right _ (List.mem_append_right _ (List.mem_append_right _ (List.mem_append_right _ (List.mem_append_left _ (show _ ∈ my_203_8 from List.mem_of_getElem? (i := 51) rfl))))))))))
theorem cd_203_850 : mt_cd 203 850 = some (.iconst 0) := mt_cd_of (q := (850, .iconst 0, 1)) mq_203 ci_203 (List.mem_append_right _ (List.mem_append_right _ (List.mem_append_right _ (List.mem_append_right _ (List.mem_append_right _ (List.mem_append_right _ (List.mem_append_right _ (List.mem_append_right _ (List.mem_append_left _ (show _ ∈ my_203_8 from List.mem_of_getElem? (i := 52) rfl))))))))))
theorem cd_203_851 : mt_cd 203 851 = some (.laload) := mt_cd_of (q := (851, .laload, 1)) mq_203 ci_203 (List.mem_append_right _ (List.mem_append_right _ (List.mem_append_right _ (List.mem_append_right _ (List.mem_append_right _ (List.mem_append_right _ (List.mem_append_right _ (List.mem_append_right _ (List.mem_append_left _ (show _ ∈ my_203_8 from List.mem_of_getElem? (i := 53) rfl))))))))))
theorem cd_203_852 : mt_cd 203 852 = some (.iload 6) := mt_cd_of (q := (852, .iload 6, 2)) mq_203 ci_203 (List.mem_append_right _ (List.mem_append_right _ (List.mem_append_right _ (List.mem_append_right _ (List.mem_append_right _ (List.mem_append_right _ (List.mem_append_right _ (List.mem_append_right _ (List.mem_append_left _ (show _ ∈ my_203_8 from List.mem_of_getElem? (i := 54) rfl))))))))))
theorem cd_203_854 : mt_cd 203 854 = some (.i2l) := mt_cd_of (q := (854, .i2l, 1)) mq_203 ci_203 (List.mem_append_right _ (List.mem_append_right _ (List.mem_append_right _ (List.mem_append_right _ (List.mem_append_right _ (List.mem_append_right _ (List.mem_append_right _ (List.mem_append_right _ (List.mem_append_left _ (show _ ∈ my_203_8 from List.mem_of_getElem? (i := 55) rfl))))))))))
theorem cd_203_855 : mt_cd 203 855 = some (.lcmp) := mt_cd_of (q := (855, .lcmp, 1)) mq_203 ci_203 (List.mem_append_right _ (List.mem_append_right _ (List.mem_append_right _ (List.mem_append_right _ (List.mem_append_right _ (List.mem_append_right _ (List.mem_append_right _ (List.mem_append_right _ (List.mem_append_left _ (show _ ∈ my_203_8 from List.mem_of_getElem? (i := 56) rfl))))))))))
theorem cd_203_856 : mt_cd 203 856 = some (.ifCond .eq 5) := mt_cd_of (q := (856, .ifCond .eq 5, 3)) mq_203 ci_203 (List.mem_append_right _ (List.mem_append_right _ (List.mem_append_right _ (List.mem_append_right _ (List.mem_append_right _ (List.mem_append_right _ (List.mem_append_right _ (List.mem_append_right _ (List.mem_append_left _ (show _ ∈ my_203_8 from List.mem_of_getElem? (i := 57) rfl))))))))))
theorem cd_203_859 : mt_cd 203 859 = some (.iconst 0) := mt_cd_of (q := (859, .iconst 0, 1)) mq_203 ci_203 (List.mem_append_right _ (List.mem_append_right _ (List.mem_append_right _ (List.mem_append_right _ (List.mem_append_right _ (List.mem_append_right _ (List.mem_append_right _ (List.mem_append_right _ (List.mem_append_left _ (show _ ∈ my_203_8 from List.mem_of_getElem? (i := 58) rfl))))))))))
theorem cd_203_860 : mt_cd 203 860 = some (.ireturn) := mt_cd_of (q := (860, .ireturn, 1)) mq_203 ci_203 (List.mem_append_right _ (List.mem_append_right _ (List.mem_append_right _ (List.mem_append_right _ (List.mem_append_right _ (List.mem_append_right _ (List.mem_append_right _ (List.mem_append_right _ (List.mem_append_left _ (show _ ∈ my_203_8 from List.mem_of_getElem? (i := 59) rfl))))))))))
theorem cd_203_861 : mt_cd 203 861 = some (.goto 304) := mt_cd_of (q := (861, .goto 304, 3)) mq_203 ci_203 (List.mem_append_right _ (List.mem_append_right _ (List.mem_append_right _ (List.mem_append_right _ (List.mem_append_right _ (List.mem_append_right _ (List.mem_append_right _ (List.mem_append_right _ (List.mem_append_right _ (List.mem_append_left _ (show _ ∈ my_203_9 from List.mem_of_getElem? (i := 0) rfl)))))))))))
theorem cd_203_864 : mt_cd 203 864 = some (.aload_n 1) := mt_cd_of (q := (864, .aload_n 1, 1)) mq_203 ci_203 (List.mem_append_right _ (List.mem_append_right _ (List.mem_append_right _ (List.mem_append_right _ (List.mem_append_right _ (List.mem_append_right _ (List.mem_append_right _ (List.mem_append_right _ (List.mem_append_right _ (List.mem_append_left _ (show _ ∈ my_203_9 from List.mem_of_getElem? (i := 1) rfl)))))))))))
theorem cd_203_865 : mt_cd 203 865 = some (.aload_n 0) := mt_cd_of (q := (865, .aload_n 0, 1)) mq_203 ci_203 (List.mem_append_right _ (List.mem_append_right _ (List.mem_append_right _ (List.mem_append_right _ (List.mem_append_right _ (List.mem_append_right _ (List.mem_append_right _ (List.mem_append_right _ (List.mem_append_right _ (List.mem_append_left _ (show _ ∈ my_203_9 from List.mem_of_getElem? (i := 2) rfl)))))))))))
theorem cd_203_866 : mt_cd 203 866 = some (.iload 4) := mt_cd_of (q := (866, .iload 4, 2)) mq_203 ci_203 (List.mem_append_right _ (List.mem_append_right _ (List.mem_append_right _ (List.mem_append_right _ (List.mem_append_right _ (List.mem_append_right _ (List.mem_append_right _ (List.mem_append_right _ (List.mem_append_right _ (List.mem_append_left _ (show _ ∈ my_203_9 from List.mem_of_getElem? (i := 3) rfl)))))))))))
theorem cd_203_868 : mt_cd 203 868 = some (.iconst 1) := mt_cd_of (q := (868, .iconst 1, 1)) mq_203 ci_203 (List.mem_append_right _ (List.mem_append_right _ (List.mem_append_right _ (List.mem_append_right _ (List.mem_append_right _ (List.mem_append_right _ (List.mem_append_right _ (List.mem_append_right _ (List.mem_append_right _ (List.mem_append_left _ (show _ ∈ my_203_9 from List.mem_of_getElem? (i := 4) rfl)))))))))))
theorem cd_203_869 : mt_cd 203 869 = some (.iadd) := mt_cd_of (q := (869, .iadd, 1)) mq_203 ci_203 (List.mem_append_right _ (List.mem_append_right _ (List.mem_append_right _ (List.mem_append_right _ (List.mem_append_right _ (List.mem_append_right _ (List.mem_append_right _ (List.mem_append_right _ (List.mem_append_right _ (List.mem_append_left _ (show _ ∈ my_203_9 from List.mem_of_getElem? (i := 5) rfl)))))))))))
theorem cd_203_870 : mt_cd 203 870 = some (.iaload) := mt_cd_of (q := (870, .iaload, 1)) mq_203 ci_203 (List.mem_append_right _ (List.mem_append_right _ (List.mem_append_right _ (List.mem_append_right _ (List.mem_append_right _ (List.mem_append_right _ (List.mem_append_right _ (List.mem_append_right _ (List.mem_append_right _ (List.mem_append_left _ (show _ ∈ my_203_9 from List.mem_of_getElem? (i := 6) rfl)))))))))))
theorem cd_203_871 : mt_cd 203 871 = some (.aload_n 3) := mt_cd_of (q := (871, .aload_n 3, 1)) mq_203 ci_203 (List.mem_append_right _ (List.mem_append_right _ (List.mem_append_right _ (List.mem_append_right _ (List.mem_append_right _ (List.mem_append_right _ (List.mem_append_right _ (List.mem_append_right _ (List.mem_append_right _ (List.mem_append_left _ (show _ ∈ my_203_9 from List.mem_of_getElem? (i := 7) rfl)))))))))))
theorem cd_203_872 : mt_cd 203 872 = some (.invokestatic 112) := mt_cd_of (q := (872, .invokestatic 112, 3)) mq_203 ci_203 (List.mem_append_right _ (List.mem_append_right _ (List.mem_append_right _ (List.mem_append_right _ (List.mem_append_right _ (List.mem_append_right _ (List.mem_append_right _ (List.mem_append_right _ (List.mem_append_right _ (List.mem_append_left _ (show _ ∈ my_203_9 from List.mem_of_getElem? (i := 8) rfl)))))))))))
theorem cd_203_875 : mt_cd 203 875 = some (.istore 5) := mt_cd_of (q := (875, .istore 5, 2)) mq_203 ci_203 (List.mem_append_right _ (List.mem_append_right _ (List.mem_append_right _ (List.mem_append_right _ (List.mem_append_right _ (List.mem_append_right _ (List.mem_append_right _ (List.mem_append_right _ (List.mem_append_right _ (List.mem_append_left _ (show _ ∈ my_203_9 from List.mem_of_getElem? (i := 9) rfl)))))))))))
theorem cd_203_877 : mt_cd 203 877 = some (.aload_n 2) := mt_cd_of (q := (877, .aload_n 2, 1)) mq_203 ci_203 (List.mem_append_right _ (List.mem_append_right _ (List.mem_append_right _ (List.mem_append_right _ (List.mem_append_right _ (List.mem_append_right _ (List.mem_append_right _ (List.mem_append_right _ (List.mem_append_right _ (List.mem_append_left _ (show _ ∈ my_203_9 from List.mem_of_getElem? (i := 10) rfl)))))))))))
theorem cd_203_878 : mt_cd 203 878 = some (.aload_n 0) := mt_cd_of (q := (878, .aload_n 0, 1)) mq_203 ci_203 (List.mem_append_right _ (List.mem_append_right _ (List.mem_append_right _ (List.mem_append_right _ (List.mem_append_right _ (List.mem_append_right _ (List.mem_append_right _ (List.mem_append_right _ (List.mem_append_right _ (List.mem_append_left _ (show _ ∈ my_203_9 from List.mem_of_getElem? (i := 11) rfl)))))))))))
theorem cd_203_879 : mt_cd 203 879 = some (.iload 4) := mt_cd_of (q := (879, .iload 4, 2)) mq_203 ci_203 (List.mem_append_right _ (List.mem_append_right _ (List.mem_append_right _ (List.mem_append_right _ (List.mem_append_right _ (List.mem_append_right _ (List.mem_append_right _ (List.mem_append_right _ (List.mem_append_right _ (List.mem_append_left _ (show _ ∈ my_203_9 from List.mem_of_getElem? (i := 12) rfl)))))))))))
theorem cd_203_881 : mt_cd 203 881 = some (.iconst 1) := mt_cd_of (q := (881, .iconst 1, 1)) mq_203 ci_203 (List.mem_append_right _ (List.mem_append_right _ (List.mem_append_right _ (List.mem_append_right _ (List.mem_append_right _ (List.mem_append_right _ (List.mem_append_right _ (List.mem_append_right _ (List.mem_append_right _ (List.mem_append_left _ (show _ ∈ my_203_9 from List.mem_of_getElem? (i := 13) rfl)))))))))))
theorem cd_203_882 : mt_cd 203 882 = some (.iadd) := mt_cd_of (q := (882, .iadd, 1)) mq_203 ci_203 (List.mem_append_right _ (List.mem_append_right _ (List.mem_append_right _ (List.mem_append_right _ (List.mem_append_right _ (List.mem_append_right _ (List.mem_append_right _ (List.mem_append_right _ (List.mem_append_right _ (List.mem_append_left _ (show _ ∈ my_203_9 from List.mem_of_getElem? (i := 14) rfl)))))))))))
theorem cd_203_883 : mt_cd 203 883 = some (.iaload) := mt_cd_of (q := (883, .iaload, 1)) mq_203 ci_203 (List.mem_append_right _ (List.mem_append_right _ (List.mem_append_right _ (List.mem_append_right _ (List.mem_append_right _ (List.mem_append_right _ (List.mem_append_right _ (List.mem_append_right _ (List.mem_append_right _ (List.mem_append_left _ (show _ ∈ my_203_9 from List.mem_of_getElem? (i := 15) rfl)))))))))))
theorem cd_203_884 : mt_cd 203 884 = some (.invokevirtual 114) := mt_cd_of (q := (884, .invokevirtual 114, 3)) mq_203 ci_203 (List.mem_append_right _ (List.mem_append_right _ (List.mem_append_right _ (List.mem_append_right _ (List.mem_append_right _ (List.mem_append_right _ (List.mem_append_right _ (List.mem_append_right _ (List.mem_append_right _ (List.mem_append_left _ (show _ ∈ my_203_9 from List.mem_of_getElem? (i := 16) rfl)))))))))))
theorem cd_203_887 : mt_cd 203 887 = some (.lstore 6) := mt_cd_of (q := (887, .lstore 6, 2)) mq_203 ci_203 (List.mem_append_right _ (List.mem_append_right _ (List.mem_append_right _ (List.mem_append_right _ (List.mem_append_right _ (List.mem_append_right _ (List.mem_append_right _ (List.mem_append_right _ (List.mem_append_right _ (List.mem_append_left _ (show _ ∈ my_203_9 from List.mem_of_getElem? (i := 17) rfl)))))))))))
theorem cd_203_889 : mt_cd 203 889 = some (.aload_n 2) := mt_cd_of (q := (889, .aload_n 2, 1)) mq_203 ci_203 (List.mem_append_right _ (List.mem_append_right _ (List.mem_append_right _ (List.mem_append_right _ (List.mem_append_right _ (List.mem_append_right _ (List.mem_append_right _ (List.mem_append_right _ (List.mem_append_right _ (List.mem_append_left _ (show _ ∈ my_203_9 from List.mem_of_getElem? (i := 18) rfl)))))))))))
theorem cd_203_890 : mt_cd 203 890 = some (.invokevirtual 75) := mt_cd_of (q := (890, .invokevirtual 75, 3)) mq_203 ci_203 (List.mem_append_right _ (List.mem_append_right _ (List.mem_append_right _ (List.mem_append_right _ (List.mem_append_right _ (List.mem_append_right _ (List.mem_append_right _ (List.mem_append_right _ (List.mem_append_right _ (List.mem_append_left _ (show _ ∈ my_203_9 from List.mem_of_getElem? (i := 19) rfl)))))))))))
theorem cd_203_893 : mt_cd 203 893 = some (.iload 5) := mt_cd_of (q := (893, .iload 5, 2)) mq_203 ci_203 (List.mem_append_right _ (List.mem_append_right _ (List.mem_append_right _ (List.mem_append_right _ (List.mem_append_right _ (List.mem_append_right _ (List.mem_append_right _ (List.mem_append_right _ (List.mem_append_right _ (List.mem_append_left _ (show _ ∈ my_203_9 from List.mem_of_getElem? (i := 20) rfl)))))))))))
theorem cd_203_895 : mt_cd 203 895 = some (.if_icmp .eq 5) := mt_cd_of (q := (895, .if_icmp .eq 5, 3)) mq_203 ci_203 (List.mem_append_right _ (List.mem_append_right _ (List.mem_append_right _ (List.mem_append_right _ (List.mem_append_right _ (List.mem_append_right _ (List.mem_append_right _ (List.mem_append_right _ (List.mem_append_right _ (List.mem_append_left _ (show _ ∈ my_203_9 from List.mem_of_getElem? (i := 21) rfl)))))))))))
theorem cd_203_898 : mt_cd 203 898 = some (.iconst 0) := mt_cd_of (q := (898, .iconst 0, 1)) mq_203 ci_203 (List.mem_append_right _ (List.mem_append_right _ (List.mem_append_right _ (List.mem_append_right _ (List.mem_append_right _ (List.mem_append_right _ (List.mem_append_right _ (List.mem_append_right _ (List.mem_append_right _ (List.mem_append_left _ (show _ ∈ my_203_9 from List.mem_of_getElem? (i := 22) rfl)))))))))))
theorem cd_203_899 : mt_cd 203 899 = some (.ireturn) := mt_cd_of (q := (899, .ireturn, 1)) mq_203 ci_203 (List.mem_append_right _ (List.mem_append_right _ (List.mem_append_right _ (List.mem_append_right _ (List.mem_append_right _ (List.mem_append_right _ (List.mem_append_right _ (List.mem_append_right _ (List.mem_append_right _ (List.mem_append_left _ (show _ ∈ my_203_9 from List.mem_of_getElem? (i := 23) rfl)))))))))))
theorem cd_203_900 : mt_cd 203 900 = some (.iload 5) := mt_cd_of (q := (900, .iload 5, 2)) mq_203 ci_203 (List.mem_append_right _ (List.mem_append_right _ (List.mem_append_right _ (List.mem_append_right _ (List.mem_append_right _ (List.mem_append_right _ (List.mem_append_right _ (List.mem_append_right _ (List.mem_append_right _ (List.mem_append_left _ (show _ ∈ my_203_9 from List.mem_of_getElem? (i := 24) rfl)))))))))))
theorem cd_203_902 : mt_cd 203 902 = some (.ifCond .ne 14) := mt_cd_of (q := (902, .ifCond .ne 14, 3)) mq_203 ci_203 (List.mem_append_right _ (List.mem_append_right _ (List.mem_append_right _ (List.mem_append_right _ (List.mem_append_right _ (List.mem_append_right _ (List.mem_append_right _ (List.mem_append_right _ (List.mem_append_right _ (List.mem_append_left _ (show _ ∈ my_203_9 from List.mem_of_getElem? (i := 25) rfl)))))))))))
theorem cd_203_905 : mt_cd 203 905 = some (.aload_n 3) := mt_cd_of (q := (905, .aload_n 3, 1)) mq_203 ci_203 (List.mem_append_right _ (List.mem_append_right _ (List.mem_append_right _ (List.mem_append_right _ (List.mem_append_right _ (List.mem_append_right _ (List.mem_append_right _ (List.mem_append_right _ (List.mem_append_right _ (List.mem_append_left _ (show _ ∈ my_203_9 from List.mem_of_getElem? (i := 26) rfl)))))))))))
theorem cd_203_906 : mt_cd 203 906 = some (.iconst 0) := mt_cd_of (q := (906, .iconst 0, 1)) mq_203 ci_203 (List.mem_append_right _ (List.mem_append_right _ (List.mem_append_right _ (List.mem_append_right _ (List.mem_append_right _ (List.mem_append_right _ (List.mem_append_right _ (List.mem_append_right _ (List.mem_append_right _ (List.mem_append_left _ (show _ ∈ my_203_9 from List.mem_of_getElem? (i := 27) rfl)))))))))))
theorem cd_203_907 : mt_cd 203 907 = some (.laload) := mt_cd_of (q := (907, .laload, 1)) mq_203 ci_203 (List.mem_append_right _ (List.mem_append_right _ (List.mem_append_right _ (List.mem_append_right _ (List.mem_append_right _ (List.mem_append_right _ (List.mem_append_right _ (List.mem_append_right _ (List.mem_append_right _ (List.mem_append_left _ (show _ ∈ my_203_9 from List.mem_of_getElem? (i := 28) rfl)))))))))))
theorem cd_203_908 : mt_cd 203 908 = some (.lload 6) := mt_cd_of (q := (908, .lload 6, 2)) mq_203 ci_203 (List.mem_append_right _ (List.mem_append_right _ (List.mem_append_right _ (List.mem_append_right _ (List.mem_append_right _ (List.mem_append_right _ (List.mem_append_right _ (List.mem_append_right _ (List.mem_append_right _ (List.mem_append_left _ (show _ ∈ my_203_9 from List.mem_of_getElem? (i := 29) rfl)))))))))))
theorem cd_203_910 : mt_cd 203 910 = some (.lcmp) := mt_cd_of (q := (910, .lcmp, 1)) mq_203 ci_203 (List.mem_append_right _ (List.mem_append_right _ (List.mem_append_right _ (List.mem_append_right _ (List.mem_append_right _ (List.mem_append_right _ (List.mem_append_right _ (List.mem_append_right _ (List.mem_append_right _ (List.mem_append_left _ (show _ ∈ my_203_9 from List.mem_of_getElem? (i := 30) rfl)))))))))))
theorem cd_203_911 : mt_cd 203 911 = some (.ifCond .eq 5) := mt_cd_of (q := (911, .ifCond .eq 5, 3)) mq_203 ci_203 (List.mem_append_right _ (List.mem_append_right _ (List.mem_append_right _ (List.mem_append_right _ (List.mem_append_right _ (List.mem_append_right _ (List.mem_append_right _ (List.mem_append_right _ (List.mem_append_right _ (List.mem_append_left _ (show _ ∈ my_203_9 from List.mem_of_getElem? (i := 31) rfl)))))))))))
theorem cd_203_914 : mt_cd 203 914 = some (.iconst 0) := mt_cd_of (q := (914, .iconst 0, 1)) mq_203 ci_203 (List.mem_append_right _ (List.mem_append_right _ (List.mem_append_right _ (List.mem_append_right _ (List.mem_append_right _ (List.mem_append_right _ (List.mem_append_right _ (List.mem_append_right _ (List.mem_append_right _ (List.mem_append_left _ (show _ ∈ my_203_9 from List.mem_of_getElem? (i := 32) rfl)))))))))))
theorem cd_203_915 : mt_cd 203 915 = some (.ireturn) := mt_cd_of (q := (915, .ireturn, 1)) mq_203 ci_203 (List.mem_append_right _ (List.mem_append_right _ (List.mem_append_right _ (List.mem_append_right _ (List.mem_append_right _ (List.mem_append_right _ (List.mem_append_right _ (List.mem_append_right _ (List.mem_append_right _ (List.mem_append_left _ (show _ ∈ my_203_9 from List.mem_of_getElem? (i := 33) rfl)))))))))))
theorem cd_203_916 : mt_cd 203 916 = some (.goto 249) := mt_cd_of (q := (916, .goto 249, 3)) mq_203 ci_203 (List.mem_append_right _ (List.mem_append_right _ (List.mem_append_right _ (List.mem_append_right _ (List.mem_append_right _ (List.mem_append_right _ (List.mem_append_right _ (List.mem_append_right _ (List.mem_append_right _ (List.mem_append_left _ (show _ ∈ my_203_9 from List.mem_of_getElem? (i := 34) rfl)))))))))))
theorem cd_203_919 : mt_cd 203 919 = some (.aload_n 1) := mt_cd_of (q := (919, .aload_n 1, 1)) mq_203 ci_203 (List.mem_append_right _ (List.mem_append_right _ (List.mem_append_right _ (List.mem_append_right _ (List.mem_append_right _ (List.mem_append_right _ (List.mem_append_right _ (List.mem_append_right _ (List.mem_append_right _ (List.mem_append_left _ (show _ ∈ my_203_9 from List.mem_of_getElem? (i := 35) rfl)))))))))))
theorem cd_203_920 : mt_cd 203 920 = some (.aload_n 0) := mt_cd_of (q := (920, .aload_n 0, 1)) mq_203 ci_203 (List.mem_append_right _ (List.mem_append_right _ (List.mem_append_right _ (List.mem_append_right _ (List.mem_append_right _ (List.mem_append_right _ (List.mem_append_right _ (List.mem_append_right _ (List.mem_append_right _ (List.mem_append_left _ (show _ ∈ my_203_9 from List.mem_of_getElem? (i := 36) rfl)))))))))))
theorem cd_203_921 : mt_cd 203 921 = some (.iload 4) := mt_cd_of (q := (921, .iload 4, 2)) mq_203 ci_203 (List.mem_append_right _ (List.mem_append_right _ (List.mem_append_right _ (List.mem_append_right _ (List.mem_append_right _ (List.mem_append_right _ (List.mem_append_right _ (List.mem_append_right _ (List.mem_append_right _ (List.mem_append_left _ (show _ ∈ my_203_9 from List.mem_of_getElem? (i := 37) rfl)))))))))))
theorem cd_203_923 : mt_cd 203 923 = some (.iconst 1) := mt_cd_of (q := (923, .iconst 1, 1)) mq_203 ci_203 (List.mem_append_right _ (List.mem_append_right _ (List.mem_append_right _ (List.mem_append_right _ (List.mem_append_right _ (List.mem_append_right _ (List.mem_append_right _ (List.mem_append_right _ (List.mem_append_right _ (List.mem_append_left _ (show _ ∈ my_203_9 from List.mem_of_getElem? (i := 38) rfl)))))))))))
theorem cd_203_924 : mt_cd 203 924 = some (.iadd) := mt_cd_of (q := (924, .iadd, 1)) mq_203 ci_203 (List.mem_append_right _ (List.mem_append_right _ (List.mem_append_right _ (List.mem_append_right _ (List.mem_append_right _ (List.mem_append_right _ (List.mem_append_right _ (List.mem_append_right _ (List.mem_append_right _ (List.mem_append_left _ (show _ ∈ my_203_9 from List.mem_of_getElem? (i := 39) rfl)))))))))))
theorem cd_203_925 : mt_cd 203 925 = some (.iaload) := mt_cd_of (q := (925, .iaload, 1)) mq_203 ci_203 (List.mem_append_right _ (List.mem_append_right _ (List.mem_append_right _ (List.mem_append_right _ (List.mem_append_right _ (List.mem_append_right _ (List.mem_append_right _ (List.mem_append_right _ (List.mem_append_right _ (List.mem_append_left _ (show _ ∈ my_203_9 from List.mem_of_getElem? (i := 40) rfl)))))))))))
theorem cd_203_926 : mt_cd 203 926 = some (.aload_n 0) := mt_cd_of (q := (926, .aload_n 0, 1)) mq_203 ci_203 (List.mem_append_right _ (List.mem_append_right _ (List.mem_append_right _ (List.mem_append_right _ (List.mem_append_right _ (List.mem_append_right _ (List.mem_append_right _ (List.mem_append_right _ (List.mem_append_right _ (List.mem_append_left _ (show _ ∈ my_203_9 from List.mem_of_getElem? (i := 41) rfl)))))))))))
theorem cd_203_927 : mt_cd 203 927 = some (.iload 4) := mt_cd_of (q := (927, .iload 4, 2)) mq_203 ci_203 (List.mem_append_right _ (List.mem_append_right _ (List.mem_append_right _ (List.mem_append_right _ (List.mem_append_right _ (List.mem_append_right _ (List.mem_append_right _ (List.mem_append_right _ (List.mem_append_right _ (List.mem_append_left _ (show _ ∈ my_203_9 from List.mem_of_getElem? (i := 42) rfl)))))))))))
theorem cd_203_929 : mt_cd 203 929 = some (.iconst 2) := mt_cd_of (q := (929, .iconst 2, 1)) mq_203 ci_203 (List.mem_append_right _ (List.mem_append_right _ (List.mem_append_right _ (List.mem_append_right _ (List.mem_append_right _ (List.mem_append_right _ (List.mem_append_right _ (List.mem_append_right _ (List.mem_append_right _ (List.mem_append_left _ (show _ ∈ my_203_9 from List.mem_of_getElem? (i := 43) rfl)))))))))))
theorem cd_203_930 : mt_cd 203 930 = some (.iadd) := mt_cd_of (q := (930, .iadd, 1)) mq_203 ci_203 (List.mem_append_right _ (List.mem_append_right _ (List.mem_append_right _ (List.mem_append_right _ (List.mem_append_right _ (List.mem_append_right _ (List.mem_append_right _ (List.mem_append_right _ (List.mem_append_right _ (List.mem_append_left _ (show _ ∈ my_203_9 from List.mem_of_getElem? (i := 44) rfl)))))))))))
theorem cd_203_931 : mt_cd 203 931 = some (.iaload) := mt_cd_of (q := (931, .iaload, 1)) mq_203 ci_203 (List.mem_append_right _ (List.mem_append_right _ (List.mem_append_right _ (List.mem_append_right _ (List.mem_append_right _ (List.mem_append_right _ (List.mem_append_right _ (List.mem_append_right _ (List.mem_append_right _ (List.mem_append_left _ (show _ ∈ my_203_9 from List.mem_of_getElem? (i := 45) rfl)))))))))))
theorem cd_203_932 : mt_cd 203 932 = some (.aload_n 0) := mt_cd_of (q := (932, .aload_n 0, 1)) mq_203 ci_203 (List.mem_append_right _ (List.mem_append_right _ (List.mem_append_right _ (List.mem_append_right _ (List.mem_append_right _ (List.mem_append_right _ (List.mem_append_right _ (List.mem_append_right _ (List.mem_append_right _ (List.mem_append_left _ (show _ ∈ my_203_9 from List.mem_of_getElem? (i := 46) rfl)))))))))))
theorem cd_203_933 : mt_cd 203 933 = some (.iload 4) := mt_cd_of (q := (933, .iload 4, 2)) mq_203 ci_203 (List.mem_append_right _ (List.mem_append_right _ (List.mem_append_right _ (List.mem_append_right _ (List.mem_append_right _ (List.mem_append_right _ (List.mem_append_right _ (List.mem_append_right _ (List.mem_append_right _ (List.mem_append_left _ (show _ ∈ my_203_9 from List.mem_of_getElem? (i := 47) rfl)))))))))))
theorem cd_203_935 : mt_cd 203 935 = some (.iconst 3) := mt_cd_of (q := (935, .iconst 3, 1)) mq_203 ci_203 (List.mem_append_right _ (List.mem_append_right _ (List.mem_append_right _ (List.mem_append_right _ (List.mem_append_right _ (List.mem_append_right _ (List.mem_append_right _ (List.mem_append_right _ (List.mem_append_right _ (List.mem_append_left _ (show _ ∈ my_203_9 from List.mem_of_getElem? (i := 48) rfl)))))))))))
theorem cd_203_936 : mt_cd 203 936 = some (.iadd) := mt_cd_of (q := (936, .iadd, 1)) mq_203 ci_203 (List.mem_append_right _ (List.mem_append_right _ (List.mem_append_right _ (List.mem_append_right _ (List.mem_append_right _ (List.mem_append_right _ (List.mem_append_right _ (List.mem_append_right _ (List.mem_append_right _ (List.mem_append_left _ (show _ ∈ my_203_9 from List.mem_of_getElem? (i := 49) rfl)))))))))))
theorem cd_203_937 : mt_cd 203 937 = some (.iaload) := mt_cd_of (q := (937, .iaload, 1)) mq_203 ci_203 (List.mem_append_right _ (List.mem_append_right _ (List.mem_append_right _ (List.mem_append_right _ (List.mem_append_right _ (List.mem_append_right _ (List.mem_append_right _ (List.mem_append_right _ (List.mem_append_right _ (List.mem_append_left _ (show _ ∈ my_203_9 from List.mem_of_getElem? (i := 50) rfl)))))))))))
theorem cd_203_938 : mt_cd 203 938 = some (.aload_n 3) := mt_cd_of (q := (938, .aload_n 3, 1)) mq_203 ci_203 (List.mem_append_right _ (List.mem_append_right _ (List.mem_append_right _ (List.mem_append_right _ (List.mem_append_right _ (List.mem_append_right _ (List.mem_append_right _ (List.mem_append_right _ (List.mem_append_right _ (List.mem_append_left _ (show _ ∈ my_203_9 from List.mem_of_getElem? (i := 51) rfl)))))))))))
theorem cd_203_939 : mt_cd 203 939 = some (.invokestatic 115) := mt_cd_of (q := (939, .invokestatic 115, 3)) mq_203 ci_203 (List.mem_append_right _ (List.mem_append_right _ (List.mem_append_right _ (List.mem_append_right _ (List.mem_append_right _ (List.mem_append_right _ (List.mem_append_right _ (List.mem_append_right _ (List.mem_append_right _ (List.mem_append_left _ (show _ ∈ my_203_9 from List.mem_of_getElem? (i := 52) rfl)))))))))))
theorem cd_203_942 : mt_cd 203 942 = some (.istore 5) := mt_cd_of (q := (942, .istore 5, 2)) mq_203 ci_203 (List.mem_append_right _ (List.mem_append_right _ (List.mem_append_right _ (List.mem_append_right _ (List.mem_append_right _ (List.mem_append_right _ (List.mem_append_right _ (List.mem_append_right _ (List.mem_append_right _ (List.mem_append_left _ (show _ ∈ my_203_9 from List.mem_of_getElem? (i := 53) rfl)))))))))))
theorem cd_203_944 : mt_cd 203 944 = some (.aload_n 2) := mt_cd_of (q := (944, .aload_n 2, 1)) mq_203 ci_203 (List.mem_append_right _ (List.mem_append_right _ (List.mem_append_right _ (List.mem_append_right _ (List.mem_append_right _ (List.mem_append_right _ (List.mem_append_right _ (List.mem_append_right _ (List.mem_append_right _ (List.mem_append_left _ (show _ ∈ my_203_9 from List.mem_of_getElem? (i := 54) rfl)))))))))))
theorem cd_203_945 : mt_cd 203 945 = some (.aload_n 0) := mt_cd_of (q := (945, .aload_n 0, 1)) mq_203 ci_203 (List.mem_append_right _ (List.mem_append_right _ (List.mem_append_right _ (List.mem_append_right _ (List.mem_append_right _ (List.mem_append_right _ (List.mem_append_right _ (List.mem_append_right _ (List.mem_append_right _ (List.mem_append_left _ (show _ ∈ my_203_9 from List.mem_of_getElem? (i := 55) rfl)))))))))))
theorem cd_203_946 : mt_cd 203 946 = some (.iload 4) := mt_cd_of (q := (946, .iload 4, 2)) mq_203 ci_203 (List.mem_append_right _ (List.mem_append_right _ (List.mem_append_right _ (List.mem_append_right _ (List.mem_append_right _ (List.mem_append_right _ (List.mem_append_right _ (List.mem_append_right _ (List.mem_append_right _ (List.mem_append_left _ (show _ ∈ my_203_9 from List.mem_of_getElem? (i := 56) rfl)))))))))))
theorem cd_203_948 : mt_cd 203 948 = some (.iconst 1) := mt_cd_of (q := (948, .iconst 1, 1)) mq_203 ci_203 (List.mem_append_right _ (List.mem_append_right _ (List.mem_append_right _ (List.mem_append_right _ (List.mem_append_right _ (List.mem_append_right _ (List.mem_append_right _ (List.mem_append_right _ (List.mem_append_right _ (List.mem_append_left _ (show _ ∈ my_203_9 from List.mem_of_getElem? (i := 57) rfl)))))))))))
theorem cd_203_949 : mt_cd 203 949 = some (.iadd) := mt_cd_of (q := (949, .iadd, 1)) mq_203 ci_203 (List.mem_append_right _ (List.mem_append_right _ (List.mem_append_right _ (List.mem_append_right _ (List.mem_append_right _ (List.mem_append_right _ (List.mem_append_right _ (List.mem_append_right _ (List.mem_append_right _ (List.mem_append_left _ (show _ ∈ my_203_9 from List.mem_of_getElem? (i := 58) rfl)))))))))))
theorem cd_203_950 : mt_cd 203 950 = some (.iaload) := mt_cd_of (q := (950, .iaload, 1)) mq_203 ci_203 (List.mem_append_right _ (List.mem_append_right _ (List.mem_append_right _ (List.mem_append_right _ (List.mem_append_right _ (List.mem_append_right _ (List.mem_append_right _ (List.mem_append_right _ (List.mem_append_right _ (List.mem_append_left _ (show _ ∈ my_203_9 from List.mem_of_getElem? (i := 59) rfl)))))))))))
theorem cd_203_951 : mt_cd 203 951 = some (.aload_n 0) := mt_cd_of (q := (951, .aload_n 0, 1)) mq_203 ci_203 (List.mem_append_right _ (List.mem_append_right _ (List.mem_append_right _ (List.mem_append_right _ (List.mem_append_right _ (List.mem_append_right _ (List.mem_append_right _ (List.mem_append_right _ (List.mem_append_right _ (List.mem_append_right _ (List.mem_append_left _ (show _ ∈ my_203_10 from List.mem_of_getElem? (i := 0) rfl))))))))))))
theorem cd_203_952 : mt_cd 203 952 = some (.iload 4) := mt_cd_of (q := (952, .iload 4, 2)) mq_203 ci_203 (List.mem_append_right _ (List.mem_append_right _ (List.mem_append_right _ (List.mem_append_right _ (List.mem_append_right _ (List.mem_append_right _ (List.mem_append_right _ (List.mem_append_right _ (List.mem_append_right _ (List.mem_append_right _ (List.mem_append_left _ (show _ ∈ my_203_10 from List.mem_of_getElem? (i := 1) rfl))))))))))))
theorem cd_203_954 : mt_cd 203 954 = some (.iconst 2) := mt_cd_of (q := (954, .iconst 2, 1)) mq_203 ci_203 (List.mem_append_right _ (List.mem_append_right _ (List.mem_append_right _ (List.mem_append_right _ (List.mem_append_right _ (List.mem_append_right _ (List.mem_append_right _ (List.mem_append_right _ (List.mem_append_right _ (List.mem_append_right _ (List.mem_append_left _ (show _ ∈ my_203_10 from List.mem_of_getElem? (i := 2) rfl))))))))))))
theorem cd_203_955 : mt_cd 203 955 = some (.iadd) := mt_cd_of (q := (955, .iadd, 1)) mq_203 ci_203 (List.mem_append_right _ (List.mem_append_right _ (List.mem_append_right _ (List.mem_append_right _ (List.mem_append_right _ (List.mem_append_right _ (List.mem_append_right _ (List.mem_append_right _ (List.mem_append_right _ (List.mem_append_right _ (List.mem_append_left _ (show _ ∈ my_203_10 from List.mem_of_getElem? (i := 3) rfl))))))))))))
theorem cd_203_956 : mt_cd 203 956 = some (.iaload) := mt_cd_of (q := (956, .iaload, 1)) mq_203 ci_203 (List.mem_append_right _ (List.mem_append_right _ (List.mem_append_right _ (List.mem_append_right _ (List.mem_append_right _ (List.mem_append_right _ (List.mem_append_right _ (List.mem_append_right _ (List.mem_append_right _ (List.mem_append_right _ (List.mem_append_left _ (show _ ∈ my_203_10 from List.mem_of_getElem? (i := 4) rfl))))))))))))
theorem cd_203_957 : mt_cd 203 957 = some (.aload_n 0) := mt_cd_of (q := (957, .aload_n 0, 1)) mq_203 ci_203 (List.mem_append_right _ (List.mem_append_right _ (List.mem_append_right _ (List.mem_append_right _ (List.mem_append_right _ (List.mem_append_right _ (List.mem_append_right _ (List.mem_append_right _ (List.mem_append_right _ (List.mem_append_right _ (List.mem_append_left _ (show _ ∈ my_203_10 from List.mem_of_getElem? (i := 5) rfl))))))))))))
theorem cd_203_958 : mt_cd 203 958 = some (.iload 4) := mt_cd_of (q := (958, .iload 4, 2)) mq_203 ci_203 (List.mem_append_right _ (List.mem_append_right _ (List.mem_append_right _ (List.mem_append_right _ (List.mem_append_right _ (List.mem_append_right _ (List.mem_append_right _ (List.mem_append_right _ (List.mem_append_right _ (List.mem_append_right _ (List.mem_append_left _ (show _ ∈ my_203_10 from List.mem_of_getElem? (i := 6) rfl))))))))))))
theorem cd_203_960 : mt_cd 203 960 = some (.iconst 3) := mt_cd_of (q := (960, .iconst 3, 1)) mq_203 ci_203 (List.mem_append_right _ (List.mem_append_right _ (List.mem_append_right _ (List.mem_append_right _ (List.mem_append_right _ (List.mem_append_right _ (List.mem_append_right _ (List.mem_append_right _ (List.mem_append_right _ (List.mem_append_right _ (List.mem_append_left _ (show _ ∈ my_203_10 from List.mem_of_getElem? (i := 7) rfl))))))))))))
theorem cd_203_961 : mt_cd 203 961 = some (.iadd) := mt_cd_of (q := (961, .iadd, 1)) mq_203 ci_203 (List.mem_append_right _ (List.mem_append_right _ (List.mem_append_right _ (List.mem_append_right _ (List.mem_append_right _ (List.mem_append_right _ (List.mem_append_right _ (List.mem_append_right _ (List.mem_append_right _ (List.mem_append_right _ (List.mem_append_left _ (show _ ∈ my_203_10 from List.mem_of_getElem? (i := 8) rfl))))))))))))
theorem cd_203_962 : mt_cd 203 962 = some (.iaload) := mt_cd_of (q := (962, .iaload, 1)) mq_203 ci_203 (List.mem_append_right _ (List.mem_append_right _ (List.mem_append_right _ (List.mem_append_right _ (List.mem_append_right _ (List.mem_append_right _ (List.mem_append_right _ (List.mem_append_right _ (List.mem_append_right _ (List.mem_append_right _ (List.mem_append_left _ (show _ ∈ my_203_10 from List.mem_of_getElem? (i := 9) rfl))))))))))))
theorem cd_203_963 : mt_cd 203 963 = some (.invokevirtual 118) := mt_cd_of (q := (963, .invokevirtual 118, 3)) mq_203 ci_203 (List.mem_append_right _ (List.mem_append_right _ (List.mem_append_right _ (List.mem_append_right _ (List.mem_append_right _ (List.mem_append_right _ (List.mem_append_right _ (List.mem_append_right _ (List.mem_append_right _ (List.mem_append_right _ (List.mem_append_left _ (show _ ∈ my_203_10 from List.mem_of_getElem? (i := 10) rfl))))))))))))
theorem cd_203_966 : mt_cd 203 966 = some (.lstore 6) := mt_cd_of (q := (966, .lstore 6, 2)) mq_203 ci_203 (List.mem_append_right _ (List.mem_append_right _ (List.mem_append_right _ (List.mem_append_right _ (List.mem_append_right _ (List.mem_append_right _ (List.mem_append_right _ (List.mem_append_right _ (List.mem_append_right _ (List.mem_append_right _ (List.mem_append_left _ (show _ ∈ my_203_10 from List.mem_of_getElem? (i := 11) rfl))))))))))))
theorem cd_203_968 : mt_cd 203 968 = some (.aload_n 2) := mt_cd_of (q := (968, .aload_n 2, 1)) mq_203 ci_203 (List.mem_append_right _ (List.mem_append_right _ (List.mem_append_right _ (List.mem_append_right _ (List.mem_append_right _ (List.mem_append_right _ (List.mem_append_right _ (List.mem_append_right _ (List.mem_append_right _ (List.mem_append_right _ (List.mem_append_left _ (show _ ∈ my_203_10 from List.mem_of_getElem? (i := 12) rfl))))))))))))
theorem cd_203_969 : mt_cd 203 969 = some (.invokevirtual 75) := mt_cd_of (q := (969, .invokevirtual 75, 3)) mq_203 ci_203 (List.mem_append_right _ (List.mem_append_right _ (List.mem_append_right _ (List.mem_append_right _ (List.mem_append_right _ (List.mem_append_right _ (List.mem_append_right _ (List.mem_append_right _ (List.mem_append_right _ (List.mem_append_right _ (List.mem_append_left _ (show _ ∈ my_203_10 from List.mem_of_getElem? (i := 13) rfl))))))))))))
theorem cd_203_972 : mt_cd 203 972 = some (.iload 5) := mt_cd_of (q := (972, .iload 5, 2)) mq_203 ci_203 (List.mem_append_right _ (List.mem_append_right _ (List.mem_append_right _ (List.mem_append_right _ (List.mem_append_right _ (List.mem_append_right _ (List.mem_append_right _ (List.mem_append_right _ (List.mem_append_right _ (List.mem_append_right _ (List.mem_append_left _ (show _ ∈ my_203_10 from List.mem_of_getElem? (i := 14) rfl))))))))))))
theorem cd_203_974 : mt_cd 203 974 = some (.if_icmp .eq 5) := mt_cd_of (q := (974, .if_icmp .eq 5, 3)) mq_203 ci_203 (List.mem_append_right _ (List.mem_append_right _ (List.mem_append_right _ (List.mem_append_right _ (List.mem_append_right _ (List.mem_append_right _ (List.mem_append_right _ (List.mem_append_right _ (List.mem_append_right _ (List.mem_append_right _ (List.mem_append_left _ (show _ ∈ my_203_10 from List.mem_of_getElem? (i := 15) rfl))))))))))))
theorem cd_203_977 : mt_cd 203 977 = some (.iconst 0) := mt_cd_of (q := (977, .iconst 0, 1)) mq_203 ci_203 (List.mem_append_right _ (List.mem_append_right _ (List.mem_append_right _ (List.mem_append_right _ (List.mem_append_right _ (List.mem_append_right _ (List.mem_append_right _ (List.mem_append_right _ (List.mem_append_right _ (List.mem_append_right _ (List.mem_append_left _ (show _ ∈ my_203_10 from List.mem_of_getElem? (i := 16) rfl))))))))))))
theorem cd_203_978 : mt_cd 203 978 = some (.ireturn) := mt_cd_of (q := (978, .ireturn, 1)) mq_203 ci_203 (List.mem_append_right _ (List.mem_append_right _ (List.mem_append_right _ (List.mem_append_right _ (List.mem_append_right _ (List.mem_append_right _ (List.mem_append_right _ (List.mem_append_right _ (List.mem_append_right _ (List.mem_append_right _ (List.mem_append_left _ (show _ ∈ my_203_10 from List.mem_of_getElem? (i := 17) rfl))))))))))))
theorem cd_203_979 : mt_cd 203 979 = some (.iload 5) := mt_cd_of (q := (979, .iload 5, 2)) mq_203 ci_203 (List.mem_append_right _ (List.mem_append_right _ (List.mem_append_right _ (List.mem_append_right _ (List.mem_append_right _ (List.mem_append_right _ (List.mem_append_right _ (List.mem_append_right _ (List.mem_append_right _ (List.mem_append_right _ (List.mem_append_left _ (show _ ∈ my_203_10 from List.mem_of_getElem? (i := 18) rfl))))))))))))
theorem cd_203_981 : mt_cd 203 981 = some (.ifCond .ne 14) := mt_cd_of (q := (981, .ifCond .ne 14, 3)) mq_203 ci_203 (List.mem_append_right _ (List.mem_append_right _ (List.mem_append_right _ (List.mem_append_right _ (List.mem_append_right _ (List.mem_append_right _ (List.mem_append_right _ (List.mem_append_right _ (List.mem_append_right _ (List.mem_append_right _ (List.mem_append_left _ (show _ ∈ my_203_10 from List.mem_of_getElem? (i := 19) rfl))))))))))))
theorem cd_203_984 : mt_cd 203 984 = some (.aload_n 3) := mt_cd_of (q := (984, .aload_n 3, 1)) mq_203 ci_203 (List.mem_append_right _ (List.mem_append_right _ (List.mem_append_right _ (List.mem_append_right _ (List.mem_append_right _ (List.mem_append_right _ (List.mem_append_right _ (List.mem_append_right _ (List.mem_append_right _ (List.mem_append_right _ (List.mem_append_left _ (show _ ∈ my_203_10 from List.mem_of_getElem? (i := 20) rfl))))))))))))
theorem cd_203_985 : mt_cd 203 985 = some (.iconst 0) := mt_cd_of (q := (985, .iconst 0, 1)) mq_203 ci_203 (List.mem_append_right _ (List.mem_append_right _ (List.mem_append_right _ (List.mem_append_right _ (List.mem_append_right _ (List.mem_append_right _ (List.mem_append_right _ (List.mem_append_right _ (List.mem_append_right _ (List.mem_append_right _ (List.mem_append_left _ (show _ ∈ my_203_10 from List.mem_of_getElem? (i := 21) rfl))))))))))))
theorem cd_203_986 : mt_cd 203 986 = some (.laload) := mt_cd_of (q := (986, .laload, 1)) mq_203 ci_203 (List.mem_append_right _ (List.mem_append_right _ (List.mem_append_right _ (List.mem_append_right _ (List.mem_append_right _ (List.mem_append_right _ (List.mem_append_right _ (List.mem_append_right _ (List.mem_append_right _ (List.mem_append_right _ (List.mem_append_left _ (show _ ∈ my_203_10 from List.mem_of_getElem? (i := 22) rfl))))))))))))
theorem cd_203_987 : mt_cd 203 987 = some (.lload 6) := mt_cd_of (q := (987, .lload 6, 2)) mq_203 ci_203 (List.mem_append_right _ (List.mem_append_right _ (List.mem_append_right _ (List.mem_append_right _ (List.mem_append_right _ (List.mem_append_right _ (List.mem_append_right _ (List.mem_append_right _ (List.mem_append_right _ (List.mem_append_right _ (List.mem_append_left _ (show _ ∈ my_203_10 from List.mem_of_getElem? (i := 23) rfl))))))))))))
theorem cd_203_989 : mt_cd 203 989 = some (.lcmp) := mt_cd_of (q := (989, .lcmp, 1)) mq_203 ci_203 (List.mem_append_right _ (List.mem_append_right _ (List.mem_append_right _ (List.mem_append_right _ (List.mem_append_right _ (List.mem_append_right _ (List.mem_append_right _ (List.mem_append_right _ (List.mem_append_right _ (List.mem_append_right _ (List.mem_append_left _ (show _ ∈ my_203_10 from List.mem_of_getElem? (i := 24) rfl))))))))))))
theorem cd_203_990 : mt_cd 203 990 = some (.ifCond .eq 5) := mt_cd_of (q := (990, .ifCond .eq 5, 3)) mq_203 ci_203 (List.mem_append_right _ (List.mem_append_right _ (List.mem_append_right _ (List.mem_append_right _ (List.mem_append_right _ (List.mem_append_right _ (List.mem_append_right _ (List.mem_append_right _ (List.mem_append_right _ (List.mem_append_right _ (List.mem_append_left _ (show _ ∈ my_203_10 from List.mem_of_getElem? (i := 25) rfl))))))))))))
theorem cd_203_993 : mt_cd 203 993 = some (.iconst 0) := mt_cd_of (q := (993, .iconst 0, 1)) mq_203 ci_203 (List.mem_append_right _ (List.mem_append_right _ (List.mem_append_right _ (List.mem_append_right _ (List.mem_append_right _ (List.mem_append_right _ (List.mem_append_right _ (List.mem_append_right _ (List.mem_append_right _ (List.mem_append_right _ (List.mem_append_left _ (show _ ∈ my_203_10 from List.mem_of_getElem? (i := 26) rfl))))))))))))
theorem cd_203_994 : mt_cd 203 994 = some (.ireturn) := mt_cd_of (q := (994, .ireturn, 1)) mq_203 ci_203 (List.mem_append_right _ (List.mem_append_right _ (List.mem_append_right _ (List.mem_append_right _ (List.mem_append_right _ (List.mem_append_right _ (List.mem_append_right _ (List.mem_append_right _ (List.mem_append_right _ (List.mem_append_right _ (List.mem_append_left _ (show _ ∈ my_203_10 from List.mem_of_getElem? (i := 27) rfl))))))))))))
theorem cd_203_995 : mt_cd 203 995 = some (.goto 170) := mt_cd_of (q := (995, .goto 170, 3)) mq_203 ci_203 (List.mem_append_right _ (List.mem_append_right _ (List.mem_append_right _ (List.mem_append_right _ (List.mem_append_right _ (List.mem_append_right _ (List.mem_append_right _ (List.mem_append_right _ (List.mem_append_right _ (List.mem_append_right _ (List.mem_append_left _ (show _ ∈ my_203_10 from List.mem_of_getElem? (i := 28) rfl))))))))))))
theorem cd_203_998 : mt_cd 203 998 = some (.aload_n 1) := mt_cd_of (q := (998, .aload_n 1, 1)) mq_203 ci_203 (List.mem_append_right _ (List.mem_append_right _ (List.mem_append_right _ (List.mem_append_right _ (List.mem_append_right _ (List.mem_append_right _ (List.mem_append_right _ (List.mem_append_right _ (List.mem_append_right _ (List.mem_append_right _ (List.mem_append_left _ (show _ ∈ my_203_10 from List.mem_of_getElem? (i := 29) rfl))))))))))))
theorem cd_203_999 : mt_cd 203 999 = some (.aload_n 3) := mt_cd_of (q := (999, .aload_n 3, 1)) mq_203 ci_203 (List.mem_append_right _ (List.mem_append_right _ (List.mem_append_right _ (List.mem_append_right _ (List.mem_append_right _ (List.mem_append_right _ (List.mem_append_right _ (List.mem_append_right _ (List.mem_append_right _ (List.mem_append_right _ (List.mem_append_left _ (show _ ∈ my_203_10 from List.mem_of_getElem? (i := 30) rfl))))))))))))
theorem cd_203_1000 : mt_cd 203 1000 = some (.invokestatic 119) := mt_cd_of (q := (1000, .invokestatic 119, 3)) mq_203 ci_203 (List.mem_append_right _ (List.mem_append_right _ (List.mem_append_right _ (List.mem_append_right _ (List.mem_append_right _ (List.mem_append_right _ (List.mem_append_right _ (List.mem_append_right _ (List.mem_append_right _ (List.mem_append_right _ (List.mem_append_left _ (show _ ∈ my_203_10 from List.mem_of_getElem? (i := 31) rfl))))))))))))
theorem cd_203_1003 : mt_cd 203 1003 = some (.istore 5) := mt_cd_of (q := (1003, .istore 5, 2)) mq_203 ci_203 (List.mem_append_right _ (List.mem_append_right _ (List.mem_append_right _ (List.mem_append_right _ (List.mem_append_right _ (List.mem_append_right _ (List.mem_append_right _ (List.mem_append_right _ (List.mem_append_right _ (List.mem_append_right _ (List.mem_append_left _ (show _ ∈ my_203_10 from List.mem_of_getElem? (i := 32) rfl))))))))))))
theorem cd_203_1005 : mt_cd 203 1005 = some (.aload_n 2) := mt_cd_of (q := (1005, .aload_n 2, 1)) mq_203 ci_203 (List.mem_append_right _ (List.mem_append_right _ (List.mem_append_right _ (List.mem_append_right _ (List.mem_append_right _ (List.mem_append_right _ (List.mem_append_right _ (List.mem_append_right _ (List.mem_append_right _ (List.mem_append_right _ (List.mem_append_left _ (show _ ∈ my_203_10 from List.mem_of_getElem? (i := 33) rfl))))))))))))
theorem cd_203_1006 : mt_cd 203 1006 = some (.invokevirtual 121) := mt_cd_of (q := (1006, .invokevirtual 121, 3)) mq_203 ci_203 (List.mem_append_right _ (List.mem_append_right _ (List.mem_append_right _ (List.mem_append_right _ (List.mem_append_right _ (List.mem_append_right _ (List.mem_append_right _ (List.mem_append_right _ (List.mem_append_right _ (List.mem_append_right _ (List.mem_append_left _ (show _ ∈ my_203_10 from List.mem_of_getElem? (i := 34) rfl))))))))))))
theorem cd_203_1009 : mt_cd 203 1009 = some (.istore 6) := mt_cd_of (q := (1009, .istore 6, 2)) mq_203 ci_203 (List.mem_append_right _ (List.mem_append_right _ (List.mem_append_right _ (List.mem_append_right _ (List.mem_append_right _ (List.mem_append_right _ (List.mem_append_right _ (List.mem_append_right _ (List.mem_append_right _ (List.mem_append_right _ (List.mem_append_left _ (show _ ∈ my_203_10 from List.mem_of_getElem? (i := 35) rfl))))))))))))
theorem cd_203_1011 : mt_cd 203 1011 = some (.aload_n 2) := mt_cd_of (q := (1011, .aload_n 2, 1)) mq_203 ci_203 (List.mem_append_right _ (List.mem_append_right _ (List.mem_append_right _ (List.mem_append_right _ (List.mem_append_right _ (List.mem_append_right _ (List.mem_append_right _ (List.mem_append_right _ (List.mem_append_right _ (List.mem_append_right _ (List.mem_append_left _ (show _ ∈ my_203_10 from List.mem_of_getElem? (i := 36) rfl))))))))))))
theorem cd_203_1012 : mt_cd 203 1012 = some (.invokevirtual 75) := mt_cd_of (q := (1012, .invokevirtual 75, 3)) mq_203 ci_203 (List.mem_append_right _ (List.mem_append_right _ (List.mem_append_right _ (List.mem_append_right _ (List.mem_append_right _ (List.mem_append_right _ (List.mem_append_right _ (List.mem_append_right _ (List.mem_append_right _ (List.mem_append_right _ (List.mem_append_left _ (show _ ∈ my_203_10 from List.mem_of_getElem? (i := 37) rfl))))))))))))
theorem cd_203_1015 : mt_cd 203 1015 = some (.iload 5) := mt_cd_of (q := (1015, .iload 5, 2)) mq_203 ci_203 (List.mem_append_right _ (List.mem_append_right _ (List.mem_append_right _ (List.mem_append_right _ (List.mem_append_right _ (List.mem_append_right _ (List.mem_append_right _ (List.mem_append_right _ (List.mem_append_right _ (List.mem_append_right _ (List.mem_append_left _ (show _ ∈ my_203_10 from List.mem_of_getElem? (i := 38) rfl))))))))))))
theorem cd_203_1017 : mt_cd 203 1017 = some (.if_icmp .eq 5) := mt_cd_of (q := (1017, .if_icmp .eq 5, 3)) mq_203 ci_203 (List.mem_append_right _ (List.mem_append_right _ (List.mem_append_right _ (List.mem_append_right _ (List.mem_append_right _ (List.mem_append_right _ (List.mem_append_right _ (List.mem_append_right _ (List.mem_append_right _ (List.mem_append_right _ (List.mem_append_left _ (show _ ∈ my_203_10 from List.mem_of_getElem? (i := 39) rfl))))))))))))
theorem cd_203_1020 : mt_cd 203 1020 = some (.iconst 0) := mt_cd_of (q := (1020, .iconst 0, 1)) mq_203 ci_203 (List.mem_append_right _ (List.mem_append_right _ (List.mem_append_right _ (List.mem_append_right _ (List.mem_append_right _ (List.mem_append_right _ (List.mem_append_right _ (List.mem_append_right _ (List.mem_append_right _ (List.mem_append_right _ (List.mem_append_left _ (show _ ∈ my_203_10 from List.mem_of_getElem? (i := 40) rfl))))))))))))
theorem cd_203_1021 : mt_cd 203 1021 = some (.ireturn) := mt_cd_of (q := (1021, .ireturn, 1)) mq_203 ci_203 (List.mem_append_right _ (List.mem_append_right _ (List.mem_append_right _ (List.mem_append_right _ (List.mem_append_right _ (List.mem_append_right _ (List.mem_append_right _ (List.mem_append_right _ (List.mem_append_right _ (List.mem_append_right _ (List.mem_append_left _ (show _ ∈ my_203_10 from List.mem_of_getElem? (i := 41) rfl))))))))))))
theorem cd_203_1022 : mt_cd 203 1022 = some (.iload 5) := mt_cd_of (q := (1022, .iload 5, 2)) mq_203 ci_203 (List.mem_append_right _ (List.mem_append_right _ (List.mem_append_right _ (List.mem_append_right _ (List.mem_append_right _ (List.mem_append_right _ (List.mem_append_right _ (List.mem_append_right _ (List.mem_append_right _ (List.mem_append_right _ (List.mem_append_left _ (show _ ∈ my_203_10 from List.mem_of_getElem? (i := 42) rfl))))))))))))
theorem cd_203_1024 : mt_cd 203 1024 = some (.ifCond .ne 15) := mt_cd_of (q := (1024, .ifCond .ne 15, 3)) mq_203 ci_203 (List.mem_append_right _ (List.mem_append_right _ (List.mem_append_right _ (List.mem_append_right _ (List.mem_append_right _ (List.mem_append_right _ (List.mem_append_right _ (List.mem_append_right _ (List.mem_append_right _ (List.mem_append_right _ (List.mem_append_left _ (show _ ∈ my_203_10 from List.mem_of_getElem? (i := 43) rfl))))))))))))
theorem cd_203_1027 : mt_cd 203 1027 = some (.aload_n 3) := mt_cd_of (q := (1027, .aload_n 3, 1)) mq_203 ci_203 (List.mem_append_right _ (List.mem_append_right _ (List.mem_append_right _ (List.mem_append_right _ (List.mem_append_right _ (List.mem_append_right _ (List.mem_append_right _ (List.mem_append_right _ (List.mem_append_right _ (List.mem_append_right _ (List.mem_append_left _ (show _ ∈ my_203_10 from List.mem_of_getElem? (i := 44) rfl))))))))))))
theorem cd_203_1028 : mt_cd 203 1028 = some (.iconst 0) := mt_cd_of (q := (1028, .iconst 0, 1)) mq_203 ci_203 (List.mem_append_right _ (List.mem_append_right _ (List.mem_append_right _ (List.mem_append_right _ (List.mem_append_right _ (List.mem_append_right _ (List.mem_append_right _ (List.mem_append_right _ (List.mem_append_right _ (List.mem_append_right _ (List.mem_append_left _ (show _ ∈ my_203_10 from List.mem_of_getElem? (i := 45) rfl))))))))))))
theorem cd_203_1029 : mt_cd 203 1029 = some (.laload) := mt_cd_of (q := (1029, .laload, 1)) mq_203 ci_203 (List.mem_append_right _ (List.mem_append_right _ (List.mem_append_right _ (List.mem_append_right _ (List.mem_append_right _ (List.mem_append_right _ (List.mem_append_right _ (List.mem_append_right _ (List.mem_append_right _ (List.mem_append_right _ (List.mem_append_left _ (show _ ∈ my_203_10 from List.mem_of_getElem? (i := 46) rfl))))))))))))
theorem cd_203_1030 : mt_cd 203 1030 = some (.iload 6) := mt_cd_of (q := (1030, .iload 6, 2)) mq_203 ci_203 (List.mem_append_right _ (List.mem_append_right _ (List.mem_append_right _ (List.mem_append_right _ (List.mem_append_right _ (List.mem_append_right _ (List.mem_append_right _ (List.mem_append_right _ (List.mem_append_right _ (List.mem_append_right _ (List.mem_append_left _ (show _ ∈ my_203_10 from List.mem_of_getElem? (i := 47) rfl))))))))))))
theorem cd_203_1032 : mt_cd 203 1032 = some (.i2l) := mt_cd_of (q := (1032, .i2l, 1)) mq_203 ci_203 (List.mem_append_right _ (List.mem_append_right _ (List.mem_append_right _ (List.mem_append_right _ (List.mem_append_right _ (List.mem_append_right _ (List.mem_append_right _ (List.mem_append_right _ (List.mem_append_right _ (List.mem_append_right _ (List.mem_append_left _ (show _ ∈ my_203_10 from List.mem_of_getElem? (i := 48) rfl))))))))))))
theorem cd_203_1033 : mt_cd 203 1033 = some (.lcmp) := mt_cd_of (q := (1033, .lcmp, 1)) mq_203 ci_203 (List.mem_append_right _ (List.mem_append_right _ (List.mem_append_right _ (List.mem_append_right _ (List.mem_append_right _ (List.mem_append_right _ (List.mem_append_right _ (List.mem_append_right _ (List.mem_append_right _ (List.mem_append_right _ (List.mem_append_left _ (show _ ∈ my_203_10 from List.mem_of_getElem? (i := 49) rfl))))))))))))
theorem cd_203_1034 : mt_cd 203 1034 = some (.ifCond .eq 5) := mt_cd_of (q := (1034, .ifCond .eq 5, 3)) mq_203 ci_203 (List.mem_append_right _ (List.mem_append_right _ (List.mem_append_right _ (List.mem_append_right _ (List.mem_append_right _ (List.mem_append_right _ (List.mem_append_right _ (List.mem_append_right _ (List.mem_append_right _ (List.mem_append_right _ (List.mem_append_left _ (show _ ∈ my_203_10 from List.mem_of_getElem? (i := 50) rfl))))))))))))
theorem cd_203_1037 : mt_cd 203 1037 = some (.iconst 0) := mt_cd_of (q := (1037, .iconst 0, 1)) mq_203 ci_203 (List.mem_append_right _ (List.mem_append_right _ (List.mem_append_right _ (List.mem_append_right _ (List.mem_append_right _ (List.mem_append_right _ (List.mem_append_right _ (List.mem_append_right _ (List.mem_append_right _ (List.mem_append_right _ (List.mem_append_left _ (show _ ∈ my_203_10 from List.mem_of_getElem? (i := 51) rfl))))))))))))
theorem cd_203_1038 : mt_cd 203 1038 = some (.ireturn) := mt_cd_of (q := (1038, .ireturn, 1)) mq_203 ci_203 (List.mem_append_right _ (List.mem_append_right _ (List.mem_append_right _ (List.mem_append_right _ (List.mem_append_right _ (List.mem_append_right _ (List.mem_append_right _ (List.mem_append_right _ (List.mem_append_right _ (List.mem_append_right _ (List.mem_append_left _ (show _ ∈ my_203_10 from List.mem_of_getElem? (i := 52) rfl))))))))))))
theorem cd_203_1039 : mt_cd 203 1039 = some (.goto 126) := mt_cd_of (q := (1039, .goto 126, 3)) mq_203 ci_203 (List.mem_append_right _ (List.mem_append_right _ (List.mem_append_right _ (List.mem_append_right _ (List.mem_append_right _ (List.mem_append_right _ (List.mem_append_right _ (List.mem_append_right _ (List.mem_append_right _ (List.mem_append_right _ (List.mem_append_left _ (show _ ∈ my_203_10 from List.mem_of_getElem? (i := 53) rfl))))))))))))
theorem cd_203_1042 : mt_cd 203 1042 = some (.aload_n 1) := mt_cd_of (q := (1042, .aload_n 1, 1)) mq_203 ci_203 (List.mem_append_right _ (List.mem_append_right _ (List.mem_append_right _ (List.mem_append_right _ (List.mem_append_right _ (List.mem_append_right _ (List.mem_append_right _ (List.mem_append_right _ (List.mem_append_right _ (List.mem_append_right _ (List.mem_append_left _ (show _ ∈ my_203_10 from List.mem_of_getElem? (i := 54) rfl))))))))))))
theorem cd_203_1043 : mt_cd 203 1043 = some (.aload_n 0) := mt_cd_of (q := (1043, .aload_n 0, 1)) mq_203 ci_203 (List.mem_append_right _ (List.mem_append_right _ (List.mem_append_right _ (List.mem_append_right _ (List.mem_append_right _ (List.mem_append_right _ (List.mem_append_right _ (List.mem_append_right _ (List.mem_append_right _ (List.mem_append_right _ (List.mem_append_left _ (show _ ∈ my_203_10 from List.mem_of_getElem? (i := 55) rfl))))))))))))
theorem cd_203_1044 : mt_cd 203 1044 = some (.iload 4) := mt_cd_of (q := (1044, .iload 4, 2)) mq_203 ci_203 (List.mem_append_right _ (List.mem_append_right _ (List.mem_append_right _ (List.mem_append_right _ (List.mem_append_right _ (List.mem_append_right _ (List.mem_append_right _ (List.mem_append_right _ (List.mem_append_right _ (List.mem_append_right _ (List.mem_append_left _ (show _ ∈ my_203_10 from List.mem_of_getElem? (i := 56) rfl))))))))))))
theorem cd_203_1046 : mt_cd 203 1046 = some (.iconst 1) := mt_cd_of (q := (1046, .iconst 1, 1)) mq_203 ci_203 (List.mem_append_right _ (List.mem_append_right _ (List.mem_append_right _ (List.mem_append_right _ (List.mem_append_right _ (List.mem_append_right _ (List.mem_append_right _ (List.mem_append_right _ (List.mem_append_right _ (List.mem_append_right _ (List.mem_append_left _ (show _ ∈ my_203_10 from List.mem_of_getElem? (i := 57) rfl))))))))))))
theorem cd_203_1047 : mt_cd 203 1047 = some (.iadd) := mt_cd_of (q := (1047, .iadd, 1)) mq_203 ci_203 (List.mem_append_right _ (List.mem_append_right _ (List.mem_append_right _ (List.mem_append_right _ (List.mem_append_right _ (List.mem_append_right _ (List.mem_append_right _ (List.mem_append_right _ (List.mem_append_right _ (List.mem_append_right _ (List.mem_append_left _ (show _ ∈ my_203_10 from List.mem_of_getElem? (i := 58) rfl))))))))))))
theorem cd_203_1048 : mt_cd 203 1048 = some (.iaload) := mt_cd_of (q := (1048, .iaload, 1)) mq_203 ci_203 (List.mem_append_right _ (List.mem_append_right _ (List.mem_append_right _ (List.mem_append_right _ (List.mem_append_right _ (List.mem_append_right _ (List.mem_append_right _ (List.mem_append_right _ (List.mem_append_right _ (List.mem_append_right _ (List.mem_append_left _ (show _ ∈ my_203_10 from List.mem_of_getElem? (i := 59) rfl))))))))))))
theorem cd_203_1049 : mt_cd 203 1049 = some (.aload_n 0) := mt_cd_of (q := (1049, .aload_n 0, 1)) mq_203 ci_203 (List.mem_append_right _ (List.mem_append_right _ (List.mem_append_right _ (List.mem_append_right _ (List.mem_append_right _ (List.mem_append_right _ (List.mem_append_right _ (List.mem_append_right _ (List.mem_append_right _ (List.mem_append_right _ (List.mem_append_right _ (List.mem_append_left _ (show _ ∈ my_203_11 from List.mem_of_getElem? (i := 0) rfl)))))))))))))
theorem cd_203_1050 : mt_cd 203 1050 = some (.iload 4) := mt_cd_of (q := (1050, .iload 4, 2)) mq_203 ci_203 (List.mem_append_right _ (List.mem_append_right _ (List.mem_append_right _ (List.mem_append_right _ (List.mem_append_right _ (List.mem_append_right _ (List.mem_append_right _ (List.mem_append_right _ (List.mem_append_right _ (List.mem_append_right _ (List.mem_append_right _ (List.mem_append_left _ (show _ ∈ my_203_11 from List.mem_of_getElem? (i := 1) rfl)))))))))))))
theorem cd_203_1052 : mt_cd 203 1052 = some (.iconst 2) := mt_cd_of (q := (1052, .iconst 2, 1)) mq_203 ci_203 (List.mem_append_right _ (List.mem_append_right _ (List.mem_append_right _ (List.mem_append_right _ (List.mem_append_right _ (List.mem_append_right _ (List.mem_append_right _ (List.mem_append_right _ (List.mem_append_right _ (List.mem_append_right _ (List.mem_append_right _ (List.mem_append_left _ (show _ ∈ my_203_11 from List.mem_of_getElem? (i := 2) rfl)))))))))))))
theorem cd_203_1053 : mt_cd 203 1053 = some (.iadd) := mt_cd_of (q := (1053, .iadd, 1)) mq_203 ci_203 (List.mem_append_right _ (List.mem_append_right _ (List.mem_append_right _ (List.mem_append_right _ (List.mem_append_right _ (List.mem_append_right _ (List.mem_append_right _ (List.mem_append_right _ (List.mem_append_right _ (List.mem_append_right _ (List.mem_append_right _ (List.mem_append_left _ (show _ ∈ my_203_11 from List.mem_of_getElem? (i := 3) rfl)))))))))))))
theorem cd_203_1054 : mt_cd 203 1054 = some (.iaload) := mt_cd_of (q := (1054, .iaload, 1)) mq_203 ci_203 (List.mem_append_right _ (List.mem_append_right _ (List.mem_append_right _ (List.mem_append_right _ (List.mem_append_right _ (List.mem_append_right _ (List.mem_append_right _ (List.mem_append_right _ (List.mem_append_right _ (List.mem_append_right _ (List.mem_append_right _ (List.mem_append_left _ (show _ ∈ my_203_11 from List.mem_of_getElem? (i := 4) rfl)))))))))))))
theorem cd_203_1055 : mt_cd 203 1055 = some (.aload_n 3) := mt_cd_of (q := (1055, .aload_n 3, 1)) mq_203 ci_203 (List.mem_append_right _ (List.mem_append_right _ (List.mem_append_right _ (List.mem_append_right _ (List.mem_append_right _ (List.mem_append_right _ (List.mem_append_right _ (List.mem_append_right _ (List.mem_append_right _ (List.mem_append_right _ (List.mem_append_right _ (List.mem_append_left _ (show _ ∈ my_203_11 from List.mem_of_getElem? (i := 5) rfl)))))))))))))
theorem cd_203_1056 : mt_cd 203 1056 = some (.invokestatic 122) := mt_cd_of (q := (1056, .invokestatic 122, 3)) mq_203 ci_203 (List.mem_append_right _ (List.mem_append_right _ (List.mem_append_right _ (List.mem_append_right _ (List.mem_append_right _ (List.mem_append_right _ (List.mem_append_right _ (List.mem_append_right _ (List.mem_append_right _ (List.mem_append_right _ (List.mem_append_right _ (List.mem_append_left _ (show _ ∈ my_203_11 from List.mem_of_getElem? (i := 6) rfl)))))))))))))
theorem cd_203_1059 : mt_cd 203 1059 = some (.istore 5) := mt_cd_of (q := (1059, .istore 5, 2)) mq_203 ci_203 (List.mem_append_right _ (List.mem_append_right _ (List.mem_append_right _ (List.mem_append_right _ (List.mem_append_right _ (List.mem_append_right _ (List.mem_append_right _ (List.mem_append_right _ (List.mem_append_right _ (List.mem_append_right _ (List.mem_append_right _ (List.mem_append_left _ (show _ ∈ my_203_11 from List.mem_of_getElem? (i := 7) rfl)))))))))))))
theorem cd_203_1061 : mt_cd 203 1061 = some (.aload_n 2) := mt_cd_of (q := (1061, .aload_n 2, 1)) mq_203 ci_203 (List.mem_append_right _ (List.mem_append_right _ (List.mem_append_right _ (List.mem_append_right _ (List.mem_append_right _ (List.mem_append_right _ (List.mem_append_right _ (List.mem_append_right _ (List.mem_append_right _ (List.mem_append_right _ (List.mem_append_right _ (List.mem_append_left _ (show _ ∈ my_203_11 from List.mem_of_getElem? (i := 8) rfl)))))))))))))
theorem cd_203_1062 : mt_cd 203 1062 = some (.aload_n 0) := mt_cd_of (q := (1062, .aload_n 0, 1)) mq_203 ci_203 (List.mem_append_right _ (List.mem_append_right _ (List.mem_append_right _ (List.mem_append_right _ (List.mem_append_right _ (List.mem_append_right _ (List.mem_append_right _ (List.mem_append_right _ (List.mem_append_right _ (List.mem_append_right _ (List.mem_append_right _ (List.mem_append_left _ (show _ ∈ my_203_11 from List.mem_of_getElem? (i := 9) rfl)))))))))))))
theorem cd_203_1063 : mt_cd 203 1063 = some (.iload 4) := mt_cd_of (q := (1063, .iload 4, 2)) mq_203 ci_203 (List.mem_append_right _ (List.mem_append_right _ (List.mem_append_right _ (List.mem_append_right _ (List.mem_append_right _ (List.mem_append_right _ (List.mem_append_right _ (List.mem_append_right _ (List.mem_append_right _ (List.mem_append_right _ (List.mem_append_right _ (List.mem_append_left _ (show _ ∈ my_203_11 from List.mem_of_getElem? (i := 10) rfl)))))))))))))
theorem cd_203_1065 : mt_cd 203 1065 = some (.iconst 1) := mt_cd_of (q := (1065, .iconst 1, 1)) mq_203 ci_203 (List.mem_append_right _ (List.mem_append_right _ (List.mem_append_right _ (List.mem_append_right _ (List.mem_append_right _ (List.mem_append_right _ (List.mem_append_right _ (List.mem_append_right _ (List.mem_append_right _ (List.mem_append_right _ (List.mem_append_right _ (List.mem_append_left _ (show _ ∈ my_203_11 from List.mem_of_getElem? (i := 11) rfl)))))))))))))
theorem cd_203_1066 : mt_cd 203 1066 = some (.iadd) := mt_cd_of (q := (1066, .iadd, 1)) mq_203 ci_203 (List.mem_append_right _ (List.mem_append_right _ (List.mem_append_right _ (List.mem_append_right _ (List.mem_append_right _ (List.mem_append_right _ (List.mem_append_right _ (List.mem_append_right _ (List.mem_append_right _ (List.mem_append_right _ (List.mem_append_right _ (List.mem_append_left _ (show _ ∈ my_203_11 from List.mem_of_getElem? (i := 12) rfl)))))))))))))
theorem cd_203_1067 : mt_cd 203 1067 = some (.iaload) := mt_cd_of (q := (1067, .iaload, 1)) mq_203 ci_203 (List.mem_append_right _ (List.mem_append_right _ (List.mem_append_right _ (List.mem_append_right _ (List.mem_append_right _ (List.mem_append_right _ (List.mem_append_right _ (List.mem_append_right _ (List.mem_append_right _ (List.mem_append_right _ (List.mem_append_right _ (List.mem_append_left _ (show _ ∈ my_203_11 from List.mem_of_getElem? (i := 13) rfl)))))))))))))
theorem cd_203_1068 : mt_cd 203 1068 = some (.aload_n 0) := mt_cd_of (q := (1068, .aload_n 0, 1)) mq_203 ci_203 (List.mem_append_right _ (List.mem_append_right _ (List.mem_append_right _ (List.mem_append_right _ (List.mem_append_right _ (List.mem_append_right _ (List.mem_append_right _ (List.mem_append_right _ (List.mem_append_right _ (List.mem_append_right _ (List.mem_append_right _ (List.mem_append_left _ (show _ ∈ my_203_11 from List.mem_of_getElem? (i := 14) rfl)))))))))))))
theorem cd_203_1069 : mt_cd 203 1069 = some (.iload 4) := mt_cd_of (q := (1069, .iload 4, 2)) mq_203 ci_203 (List.mem_append_right _ (List.mem_append_right _ (List.mem_append_right _ (List.mem_append_right _ (List.mem_append_right _ (List.mem_append_right _ (List.mem_append_right _ (List.mem_append_right _ (List.mem_append_right _ (List.mem_append_right _ (List.mem_append_right _ (List.mem_append_left _ (show _ ∈ my_203_11 from List.mem_of_getElem? (i := 15) rfl)))))))))))))
theorem cd_203_1071 : mt_cd 203 1071 = some (.iconst 2) := mt_cd_of (q := (1071, .iconst 2, 1)) mq_203 ci_203 (List.mem_append_right _ (List.mem_append_right _ (List.mem_append_right _ (List.mem_append_right _ (List.mem_append_right _ (List.mem_append_right _ (List.mem_append_right _ (List.mem_append_right _ (List.mem_append_right _ (List.mem_append_right _ (List.mem_append_right _ (List.mem_append_left _ (show _ ∈ my_203_11 from List.mem_of_getElem? (i := 16) rfl)))))))))))))
theorem cd_203_1072 : mt_cd 203 1072 = some (.iadd) := mt_cd_of (q := (1072, .iadd, 1)) mq_203 ci_203 (List.mem_append_right _ (List.mem_append_right _ (List.mem_append_right _ (List.mem_append_right _ (List.mem_append_right _ (List.mem_append_right _ (List.mem_append_right _ (List.mem_append_right _ (List.mem_append_right _ (List.mem_append_right _ (List.mem_append_right _ (List.mem_append_left _ (show _ ∈ my_203_11 from List.mem_of_getElem? (i := 17) rfl)))))))))))))
theorem cd_203_1073 : mt_cd 203 1073 = some (.iaload) := mt_cd_of (q := (1073, .iaload, 1)) mq_203 ci_203 (List.mem_append_right _ (List.mem_append_right _ (List.mem_append_right _ (List.mem_append_right _ (List.mem_append_right _ (List.mem_append_right _ (List.mem_append_right _ (List.mem_append_right _ (List.mem_append_right _ (List.mem_append_right _ (List.mem_append_right _ (List.mem_append_left _ (show _ ∈ my_203_11 from List.mem_of_getElem? (i := 18) rfl)))))))))))))
theorem cd_203_1074 : mt_cd 203 1074 = some (.invokevirtual 124) := mt_cd_of (q := (1074, .invokevirtual 124, 3)) mq_203 ci_203 (List.mem_append_right _ (List.mem_append_right _ (List.mem_append_right _ (List.mem_append_right _ (List.mem_append_right _ (List.mem_append_right _ (List.mem_append_right _ (List.mem_append_right _ (List.mem_append_right _ (List.mem_append_right _ (List.mem_append_right _ (List.mem_append_left _ (show _ ∈ my_203_11 from List.mem_of_getElem? (i := 19) rfl)))))))))))))
theorem cd_203_1077 : mt_cd 203 1077 = some (.lstore 6) := mt_cd_of (q := (1077, .lstore 6, 2)) mq_203 ci_203 (List.mem_append_right _ (List.mem_append_right _ (List.mem_append_right _ (List.mem_append_right _ (List.mem_append_right _ (List.mem_append_right _ (List.mem_append_right _ (List.mem_append_right _ (List.mem_append_right _ (List.mem_append_right _ (List.mem_append_right _ (List.mem_append_left _ (show _ ∈ my_203_11 from List.mem_of_getElem? (i := 20) rfl)))))))))))))
theorem cd_203_1079 : mt_cd 203 1079 = some (.aload_n 2) := mt_cd_of (q := (1079, .aload_n 2, 1)) mq_203 ci_203 (List.mem_append_right _ (List.mem_append_right _ (List.mem_append_right _ (List.mem_append_right _ (List.mem_append_right _ (List.mem_append_right _ (List.mem_append_right _ (List.mem_append_right _ (List.mem_append_right _ (List.mem_append_right _ (List.mem_append_right _ (List.mem_append_left _ (show _ ∈ my_203_11 from List.mem_of_getElem? (i := 21) rfl)))))))))))))
theorem cd_203_1080 : mt_cd 203 1080 = some (.invokevirtual 75) := mt_cd_of (q := (1080, .invokevirtual 75, 3)) mq_203 ci_203 (List.mem_append_right _ (List.mem_append_right _ (List.mem_append_right _ (List.mem_append_right _ (List.mem_append_right _ (List.mem_append_right _ (List.mem_append_right _ (List.mem_append_right _ (List.mem_append_right _ (List.mem_append_right _ (List.mem_append_right _ (List.mem_append_left _ (show _ ∈ my_203_11 from List.mem_of_getElem? (i := 22) rfl)))))))))))))
theorem cd_203_1083 : mt_cd 203 1083 = some (.iload 5) := mt_cd_of (q := (1083, .iload 5, 2)) mq_203 ci_203 (List.mem_append_right _ (List.mem_append_right _ (List.mem_append_right _ (List.mem_append_right _ (List.mem_append_right _ (List.mem_append_right _ (List.mem_append_right _ (List.mem_append_right _ (List.mem_append_right _ (List.mem_append_right _ (List.mem_append_right _ (List.mem_append_left _ (show _ ∈ my_203_11 from List.mem_of_getElem? (i := 23) rfl)))))))))))))
theorem cd_203_1085 : mt_cd 203 1085 = some (.if_icmp .eq 5) := mt_cd_of (q := (1085, .if_icmp .eq 5, 3)) mq_203 ci_203 (List.mem_append_right _ (List.mem_append_right _ (List.mem_append_right _ (List.mem_append_right _ (List.mem_append_right _ (List.mem_append_right _ (List.mem_append_right _ (List.mem_append_right _ (List.mem_append_right _ (List.mem_append_right _ (List.mem_append_right _ (List.mem_append_left _ (show _ ∈ my_203_11 from List.mem_of_getElem? (i := 24) rfl)))))))))))))
theorem cd_203_1088 : mt_cd 203 1088 = some (.iconst 0) := mt_cd_of (q := (1088, .iconst 0, 1)) mq_203 ci_203 (List.mem_append_right _ (List.mem_append_right _ (List.mem_append_right _ (List.mem_append_right _ (List.mem_append_right _ (List.mem_append_right _ (List.mem_append_right _ (List.mem_append_right _ (List.mem_append_right _ (List.mem_append_right _ (List.mem_append_right _ (List.mem_append_left _ (show _ ∈ my_203_11 from List.mem_of_getElem? (i := 25) rfl)))))))))))))
theorem cd_203_1089 : mt_cd 203 1089 = some (.ireturn) := mt_cd_of (q := (1089, .ireturn, 1)) mq_203 ci_203 (List.mem_append_right _ (List.mem_append_right _ (List.mem_append_right _ (List.mem_append_right _ (List.mem_append_right _ (List.mem_append_right _ (List.mem_append_right _ (List.mem_append_right _ (List.mem_append_right _ (List.mem_append_right _ (List.mem_append_right _ (List.mem_append_left _ (show _ ∈ my_203_11 from List.mem_of_getElem? (i := 26) rfl)))))))))))))
theorem cd_203_1090 : mt_cd 203 1090 = some (.iload 5) := mt_cd_of (q := (1090, .iload 5, 2)) mq_203 ci_203 (List.mem_append_right _ (List.mem_append_right _ (List.mem_append_right _ (List.mem_append_right _ (List.mem_append_right _ (List.mem_append_right _ (List.mem_append_right _ (List.mem_append_right _ (List.mem_append_right _ (List.mem_append_right _ (List.mem_append_right _ (List.mem_append_left _ (show _ ∈ my_203_11 from List.mem_of_getElem? (i := 27) rfl)))))))))))))
theorem cd_203_1092 : mt_cd 203 1092 = some (.ifCond .ne 14) := mt_cd_of (q := (1092, .ifCond .ne 14, 3)) mq_203 ci_203 (List.mem_append_right _ (List.mem_append_right _ (List.mem_append_right _ (List.mem_append_right _ (List.mem_append_right _ (List.mem_append_right _ (List.mem_append_right _ (List.mem_append_right _ (List.mem_append_right _ (List.mem_append_right _ (List.mem_append_right _ (List.mem_append_left _ (show _ ∈ my_203_11 from List.mem_of_getElem? (i := 28) rfl)))))))))))))
theorem cd_203_1095 : mt_cd 203 1095 = some (.aload_n 3) := mt_cd_of (q := (1095, .aload_n 3, 1)) mq_203 ci_203 (List.mem_append_right _ (List.mem_append_right _ (List.mem_append_right _ (List.mem_append_right _ (List.mem_append_right _ (List.mem_append_right _ (List.mem_append_right _ (List.mem_append_right _ (List.mem_append_right _ (List.mem_append_right _ (List.mem_append_right _ (List.mem_append_left _ (show _ ∈ my_203_11 from List.mem_of_getElem? (i := 29) rfl)))))))))))))
theorem cd_203_1096 : mt_cd 203 1096 = some (.iconst 0) := mt_cd_of (q := (1096, .iconst 0, 1)) mq_203 ci_203 (List.mem_append_right _ (List.mem_append_right _ (List.mem_append_right _ (List.mem_append_right _ (List.mem_append_right _ (List.mem_append_right _ (List.mem_append_right _ (List.mem_append_right _ (List.mem_append_right _ (List.mem_append_right _ (List.mem_append_right _ (List.mem_append_left _ (show _ ∈ my_203_11 from List.mem_of_getElem? (i := 30) rfl)))))))))))))
theorem cd_203_1097 : mt_cd 203 1097 = some (.laload) := mt_cd_of (q := (1097, .laload, 1)) mq_203 ci_203 (List.mem_append_right _ (List.mem_append_right _ (List.mem_append_right _ (List.mem_append_right _ (List.mem_append_right _ (List.mem_append_right _ (List.mem_append_right _ (List.mem_append_right _ (List.mem_append_right _ (List.mem_append_right _ (List.mem_append_right _ (List.mem_append_left _ (show _ ∈ my_203_11 from List.mem_of_getElem? (i := 31) rfl)))))))))))))
theorem cd_203_1098 : mt_cd 203 1098 = some (.lload 6) := mt_cd_of (q := (1098, .lload 6, 2)) mq_203 ci_203 (List.mem_append_right _ (List.mem_append_right _ (List.mem_append_right _ (List.mem_append_right _ (List.mem_append_right _ (List.mem_append_right _ (List.mem_append_right _ (List.mem_append_right _ (List.mem_append_right _ (List.mem_append_right _ (List.mem_append_right _ (List.mem_append_left _ (show _ ∈ my_203_11 from List.mem_of_getElem? (i := 32) rfl)))))))))))))
theorem cd_203_1100 : mt_cd 203 1100 = some (.lcmp) := mt_cd_of (q := (1100, .lcmp, 1)) mq_203 ci_203 (List.mem_append_right _ (List.mem_append_right _ (List.mem_append_right _ (List.mem_append_right _ (List.mem_append_right _ (List.mem_append_right _ (List.mem_append_right _ (List.mem_append_right _ (List.mem_append_right _ (List.mem_append_right _ (List.mem_append_right _ (List.mem_append_left _ (show _ ∈ my_203_11 from List.mem_of_getElem? (i := 33) rfl)))))))))))))
theorem cd_203_1101 : mt_cd 203 1101 = some (.ifCond .eq 5) := mt_cd_of (q := (1101, .ifCond .eq 5, 3)) mq_203 ci_203 (List.mem_append_right _ (List.mem_append_right _ (List.mem_append_right _ (List.mem_append_right _ (List.mem_append_right _ (List.mem_append_right _ (List.mem_append_right _ (List.mem_append_right _ (List.mem_append_right _ (List.mem_append_right _ (List.mem_append_right _ (List.mem_append_left _ (show _ ∈ my_203_11 from List.mem_of_getElem? (i := 34) rfl)))))))))))))
theorem cd_203_1104 : mt_cd 203 1104 = some (.iconst 0) := mt_cd_of (q := (1104, .iconst 0, 1)) mq_203 ci_203 (List.mem_append_right _ (List.mem_append_right _ (List.mem_append_right _ (List.mem_append_right _ (List.mem_append_right _ (List.mem_append_right _ (List.mem_append_right _ (List.mem_append_right _ (List.mem_append_right _ (List.mem_append_right _ (List.mem_append_right _ (List.mem_append_left _ (show _ ∈ my_203_11 from List.mem_of_getElem? (i := 35) rfl)))))))))))))
theorem cd_203_1105 : mt_cd 203 1105 = some (.ireturn) := mt_cd_of (q := (1105, .ireturn, 1)) mq_203 ci_203 (List.mem_append_right _ (List.mem_append_right _ (List.mem_append_right _ (List.mem_append_right _ (List.mem_append_right _ (List.mem_append_right _ (List.mem_append_right _ (List.mem_append_right _ (List.mem_append_right _ (List.mem_append_right _ (List.mem_append_right _ (List.mem_append_left _ (show _ ∈ my_203_11 from List.mem_of_getElem? (i := 36) rfl)))))))))))))
theorem cd_203_1106 : mt_cd 203 1106 = some (.goto 59) := mt_cd_of (q := (1106, .goto 59, 3)) mq_203 ci_203 (List.mem_append_right _ (List.mem_append_right _ (List.mem_append_right _ (List.mem_append_right _ (List.mem_append_right _ (List.mem_append_right _ (List.mem_append_right _ (List.mem_append_right _ (List.mem_append_right _ (List.mem_append_right _ (List.mem_append_right _ (List.mem_append_left _ (show _ ∈ my_203_11 from List.mem_of_getElem? (i := 37) rfl)))))))))))))
theorem cd_203_1109 : mt_cd 203 1109 = some (.aload_n 1) := mt_cd_of (q := (1109, .aload_n 1, 1)) mq_203 ci_203 (List.mem_append_right _ (List.mem_append_right _ (List.mem_append_right _ (List.mem_append_right _ (List.mem_append_right _ (List.mem_append_right _ (List.mem_append_right _ (List.mem_append_right _ (List.mem_append_right _ (List.mem_append_right _ (List.mem_append_right _ (List.mem_append_left _ (show _ ∈ my_203_11 from List.mem_of_getElem? (i := 38) rfl)))))))))))))
theorem cd_203_1110 : mt_cd 203 1110 = some (.aload_n 0) := mt_cd_of (q := (1110, .aload_n 0, 1)) mq_203 ci_203 (List.mem_append_right _ (List.mem_append_right _ (List.mem_append_right _ (List.mem_append_right _ (List.mem_append_right _ (List.mem_append_right _ (List.mem_append_right _ (List.mem_append_right _ (List.mem_append_right _ (List.mem_append_right _ (List.mem_append_right _ (List.mem_append_left _ (show _ ∈ my_203_11 from List.mem_of_getElem? (i := 39) rfl)))))))))))))
theorem cd_203_1111 : mt_cd 203 1111 = some (.iload 4) := mt_cd_of (q := (1111, .iload 4, 2)) mq_203 ci_203 (List.mem_append_right _ (List.mem_append_right _ (List.mem_append_right _ (List.mem_append_right _ (List.mem_append_right _ (List.mem_append_right _ (List.mem_append_right _ (List.mem_append_right _ (List.mem_append_right _ (List.mem_append_right _ (List.mem_append_right _ (List.mem_append_left _ (show _ ∈ my_203_11 from List.mem_of_getElem? (i := 40) rfl)))))))))))))
theorem cd_203_1113 : mt_cd 203 1113 = some (.iconst 1) := mt_cd_of (q := (1113, .iconst 1, 1)) mq_203 ci_203 (List.mem_append_right _ (List.mem_append_right _ (List.mem_append_right _ (List.mem_append_right _ (List.mem_append_right _ (List.mem_append_right _ (List.mem_append_right _ (List.mem_append_right _ (List.mem_append_right _ (List.mem_append_right _ (List.mem_append_right _ (List.mem_append_left _ (show _ ∈ my_203_11 from List.mem_of_getElem? (i := 41) rfl)))))))))))))
theorem cd_203_1114 : mt_cd 203 1114 = some (.iadd) := mt_cd_of (q := (1114, .iadd, 1)) mq_203 ci_203 (List.mem_append_right _ (List.mem_append_right _ (List.mem_append_right _ (List.mem_append_right _ (List.mem_append_right _ (List.mem_append_right _ (List.mem_append_right _ (List.mem_append_right _ (List.mem_append_right _ (List.mem_append_right _ (List.mem_append_right _ (List.mem_append_left _ (show _ ∈ my_203_11 from List.mem_of_getElem? (i := 42) rfl)))))))))))))
theorem cd_203_1115 : mt_cd 203 1115 = some (.iaload) := mt_cd_of (q := (1115, .iaload, 1)) mq_203 ci_203 (List.mem_append_right _ (List.mem_append_right _ (List.mem_append_right _ (List.mem_append_right _ (List.mem_append_right _ (List.mem_append_right _ (List.mem_append_right _ (List.mem_append_right _ (List.mem_append_right _ (List.mem_append_right _ (List.mem_append_right _ (List.mem_append_left _ (show _ ∈ my_203_11 from List.mem_of_getElem? (i := 43) rfl)))))))))))))
theorem cd_203_1116 : mt_cd 203 1116 = some (.aload_n 3) := mt_cd_of (q := (1116, .aload_n 3, 1)) mq_203 ci_203 (List.mem_append_right _ (List.mem_append_right _ (List.mem_append_right _ (List.mem_append_right _ (List.mem_append_right _ (List.mem_append_right _ (List.mem_append_right _ (List.mem_append_right _ (List.mem_append_right _ (List.mem_append_right _ (List.mem_append_right _ (List.mem_append_left _ (show _ ∈ my_203_11 from List.mem_of_getElem? (i := 44) rfl)))))))))))))
theorem cd_203_1117 : mt_cd 203 1117 = some (.invokestatic 125) := mt_cd_of (q := (1117, .invokestatic 125, 3)) mq_203 ci_203 (List.mem_append_right _ (List.mem_append_right _ (List.mem_append_right _ (List.mem_append_right _ (List.mem_append_right _ (List.mem_append_right _ (List.mem_append_right _ (List.mem_append_right _ (List.mem_append_right _ (List.mem_append_right _ (List.mem_append_right _ (List.mem_append_left _ (show _ ∈ my_203_11 from List.mem_of_getElem? (i := 45) rfl)))))))))))))
theorem cd_203_1120 : mt_cd 203 1120 = some (.istore 5) := mt_cd_of (q := (1120, .istore 5, 2)) mq_203 ci_203 (List.mem_append_right _ (List.mem_append_right _ (List.mem_append_right _ (List.mem_append_right _ (List.mem_append_right _ (List.mem_append_right _ (List.mem_append_right _ (List.mem_append_right _ (List.mem_append_right _ (List.mem_append_right _ (List.mem_append_right _ (List.mem_append_left _ (show _ ∈ my_203_11 from List.mem_of_getElem? (i := 46) rfl)))))))))))))
theorem cd_203_1122 : mt_cd 203 1122 = some (.aload_n 2) := mt_cd_of (q := (1122, .aload_n 2, 1)) mq_203 ci_203 (List.mem_append_right _ (List.mem_append_right _ (List.mem_append_right _ (List.mem_append_right _ (List.mem_append_right _ (List.mem_append_right _ (List.mem_append_right _ (List.mem_append_right _ (List.mem_append_right _ (List.mem_append_right _ (List.mem_append_right _ (List.mem_append_left _ (show _ ∈ my_203_11 from List.mem_of_getElem? (i := 47) rfl)))))))))))))
theorem cd_203_1123 : mt_cd 203 1123 = some (.aload_n 0) := mt_cd_of (q := (1123, .aload_n 0, 1)) mq_203 ci_203 (List.mem_append_right _ (List.mem_append_right _ (List.mem_append_right _ (List.mem_append_right _ (List.mem_append_right _ (List.mem_append_right _ (List.mem_append_right _ (List.mem_append_right _ (List.mem_append_right _ (List.mem_append_right _ (List.mem_append_right _ (List.mem_append_left _ (show _ ∈ my_203_11 from List.mem_of_getElem? (i := 48) rfl)))))))))))))
theorem cd_203_1124 : mt_cd 203 1124 = some (.iload 4) := mt_cd_of (q := (1124, .iload 4, 2)) mq_203 ci_203 (List.mem_append_right _ (List.mem_append_right _ (List.mem_append_right _ (List.mem_append_right _ (List.mem_append_right _ (List.mem_append_right _ (List.mem_append_right _ (List.mem_append_right _ (List.mem_append_right _ (List.mem_append_right _ (List.mem_append_right _ (List.mem_append_left _ (show _ ∈ my_203_11 from List.mem_of_getElem? (i := 49) rfl)))))))))))))
theorem cd_203_1126 : mt_cd 203 1126 = some (.iconst 1) := mt_cd_of (q := (1126, .iconst 1, 1)) mq_203 ci_203 (List.mem_append_right _ (List.mem_append_right _ (List.mem_append_right _ (List.mem_append_right _ (List.mem_append_right _ (List.mem_append_right _ (List.mem_append_right _ (List.mem_append_right _ (List.mem_append_right _ (List.mem_append_right _ (List.mem_append_right _ (List.mem_append_left _ (show _ ∈ my_203_11 from List.mem_of_getElem? (i := 50) rfl)))))))))))))
theorem cd_203_1127 : mt_cd 203 1127 = some (.iadd) := mt_cd_of (q := (1127, .iadd, 1)) mq_203 ci_203 (List.mem_append_right _ (List.mem_append_right _ (List.mem_append_right _ (List.mem_append_right _ (List.mem_append_right _ (List.mem_append_right _ (List.mem_append_right _ (List.mem_append_right _ (List.mem_append_right _ (List.mem_append_right _ (List.mem_append_right _ (List.mem_append_left _ (show _ ∈ my_203_11 from List.mem_of_getElem? (i := 51) rfl)))))))))))))
theorem cd_203_1128 : mt_cd 203 1128 = some (.iaload) := mt_cd_of (q := (1128, .iaload, 1)) mq_203 ci_203 (List.mem_append_right _ (List.mem_append_right _ (List.mem_append_right _ (List.mem_append_right _ (List.mem_append_right _ (List.mem_append_right _ (List.mem_append_right _ (List.mem_append_right _ (List.mem_append_right _ (List.mem_append_right _ (List.mem_append_right _ (List.mem_append_left _ (show _ ∈ my_203_11 from List.mem_of_getElem? (i := 52) rfl)))))))))))))
theorem cd_203_1129 : mt_cd 203 1129 = some (.invokevirtual 127) := mt_cd_of (q := (1129, .invokevirtual 127, 3)) mq_203 ci_203 (List.mem_append_right _ (List.mem_append_right _ (List.mem_append_right _ (List.mem_append_right _ (List.mem_append_right _ (List.mem_append_right _ (List.mem_append_right _ (List.mem_append_right _ (List.mem_append_right _ (List.mem_append_right _ (List.mem_append_right _ (List.mem_append_left _ (show _ ∈ my_203_11 from List.mem_of_getElem? (i := 53) rfl)))))))))))))
theorem cd_203_1132 : mt_cd 203 1132 = some (.istore 6) := mt_cd_of (q := (1132, .istore 6, 2)) mq_203 ci_203 (List.mem_append_right _ (List.mem_append_right _ (List.mem_append_right _ (List.mem_append_right _ (List.mem_append_right _ (List.mem_append_right _ (List.mem_append_right _ (List.mem_append_right _ (List.mem_append_right _ (List.mem_append_right _ (List.mem_append_right _ (List.mem_append_left _ (show _ ∈ my_203_11 from List.mem_of_getElem? (i := 54) rfl)))))))))))))
theorem cd_203_1134 : mt_cd 203 1134 = some (.aload_n 2) := mt_cd_of (q := (1134, .aload_n 2, 1)) mq_203 ci_203 (List.mem_append_right _ (List.mem_append_right _ (List.mem_append_right _ (List.mem_append_right _ (List.mem_append_right _ (List.mem_append_right _ (List.mem_append_right _ (List.mem_append_right _ (List.mem_append_right _ (List.mem_append_right _ (List.mem_append_right _ (List.mem_append_left _ (show _ ∈ my_203_11 from List.mem_of_getElem? (i := 55) rfl)))))))))))))
theorem cd_203_1135 : mt_cd 203 1135 = some (.invokevirtual 75) := mt_cd_of (q := (1135, .invokevirtual 75, 3)) mq_203 ci_203 (List.mem_append_right _ (List.mem_append_right _ (List.mem_append_right _ (List.mem_append_right _ (List.mem_append_right _ (List.mem_append_right _ (List.mem_append_right _ (List.mem_append_right _ (List.mem_append_right _ (List.mem_append_right _ (List.mem_append_right _ (List.mem_append_left _ (show _ ∈ my_203_11 from List.mem_of_getElem? (i := 56) rfl)))))))))))))
theorem cd_203_1138 : mt_cd 203 1138 = some (.iload 5) := mt_cd_of (q := (1138, .iload 5, 2)) mq_203 ci_203 (List.mem_append_right _ (List.mem_append_right _ (List.mem_append_right _ (List.mem_append_right _ (List.mem_append_right _ (List.mem_append_right _ (List.mem_append_right _ (List.mem_append_right _ (List.mem_append_right _ (List.mem_append_right _ (List.mem_append_right _ (List.mem_append_left _ (show _ ∈ my_203_11 from List.mem_of_getElem? (i := 57) rfl)))))))))))))
theorem cd_203_1140 : mt_cd 203 1140 = some (.if_icmp .eq 5) := mt_cd_of (q := (1140, .if_icmp .eq 5, 3)) mq_203 ci_203 (List.mem_append_right _ (List.mem_append_right _ (List.mem_append_right _ (List.mem_append_right _ (List.mem_append_right _ (List.mem_append_right _ (List.mem_append_right _ (List.mem_append_right _ (List.mem_append_right _ (List.mem_append_right _ (List.mem_append_right _ (List.mem_append_left _ (show _ ∈ my_203_11 from List.mem_of_getElem? (i := 58) rfl)))))))))))))
theorem cd_203_1143 : mt_cd 203 1143 = some (.iconst 0) := mt_cd_of (q := (1143, .iconst 0, 1)) mq_203 ci_203 (List.mem_append_right _ (List.mem_append_right _ (List.mem_append_right _ (List.mem_append_right _ (List.mem_append_right _ (List.mem_append_right _ (List.mem_append_right _ (List.mem_append_right _ (List.mem_append_right _ (List.mem_append_right _ (List.mem_append_right _ (List.mem_append_left _ (show _ ∈ my_203_11 from List.mem_of_getElem? (i := 59) rfl)))))))))))))
theorem cd_203_1144 : mt_cd 203 1144 = some (.ireturn) := mt_cd_of (q := (1144, .ireturn, 1)) mq_203 ci_203 (List.mem_append_right _ (List.mem_append_right _ (List.mem_append_right _ (List.mem_append_right _ (List.mem_append_right _ (List.mem_append_right _ (List.mem_append_right _ (List.mem_append_right _ (List.mem_append_right _ (List.mem_append_right _ (List.mem_append_right _ (List.mem_append_right _ ((show _ ∈ my_203_12 from List.mem_of_getElem? (i := 0) rfl))))))))))))))
theorem cd_203_1145 : mt_cd 203 1145 = some (.iload 5) := mt_cd_of (q := (1145, .iload 5, 2)) mq_203 ci_203 (List.mem_append_right _ (List.mem_append_right _ (List.mem_append_right _ (List.mem_append_right _ (List.mem_append_right _ (List.mem_append_right _ (List.mem_append_right _ (List.mem_append_right _ (List.mem_append_right _ (List.mem_append_right _ (List.mem_append_right _ (List.mem_append_right _ ((show _ ∈ my_203_12 from List.mem_of_getElem? (i := 1) rfl))))))))))))))
theorem cd_203_1147 : mt_cd 203 1147 = some (.ifCond .ne 15) := mt_cd_of (q := (1147, .ifCond .ne 15, 3)) mq_203 ci_203 (List.mem_append_right _ (List.mem_append_right _ (List.mem_append_right _ (List.mem_append_right _ (List.mem_append_right _ (List.mem_append_right _ (List.mem_append_right _ (List.mem_append_right _ (List.mem_append_right _ (List.mem_append_right _ (List.mem_append_right _ (List.mem_append_right _ ((show _ ∈ my_203_12 from List.mem_of_getElem? (i := 2) rfl))))))))))))))
theorem cd_203_1150 : mt_cd 203 1150 = some (.aload_n 3) := mt_cd_of (q := (1150, .aload_n 3, 1)) mq_203 ci_203 (List.mem_append_right _ (List.mem_append_right _ (List.mem_append_right _ (List.mem_append_right _ (List.mem_append_right _ (List.mem_append_right _ (List.mem_append_right _ (List.mem_append_right _ (List.mem_append_right _ (List.mem_append_right _ (List.mem_append_right _ (List.mem_append_right _ ((show _ ∈ my_203_12 from List.mem_of_getElem? (i := 3) rfl))))))))))))))
theorem cd_203_1151 : mt_cd 203 1151 = some (.iconst 0) := mt_cd_of (q := (1151, .iconst 0, 1)) mq_203 ci_203 (List.mem_append_right _ (List.mem_append_right _ (List.mem_append_right _ (List.mem_append_right _ (List.mem_append_right _ (List.mem_append_right _ (List.mem_append_right _ (List.mem_append_right _ (List.mem_append_right _ (List.mem_append_right _ (List.mem_append_right _ (List.mem_append_right _ ((show _ ∈ my_203_12 from List.mem_of_getElem? (i := 4) rfl))))))))))))))
theorem cd_203_1152 : mt_cd 203 1152 = some (.laload) := mt_cd_of (q := (1152, .laload, 1)) mq_203 ci_203 (List.mem_append_right _ (List.mem_append_right _ (List.mem_append_right _ (List.mem_append_right _ (List.mem_append_right _ (List.mem_append_right _ (List.mem_append_right _ (List.mem_append_right _ (List.mem_append_right _ (List.mem_append_right _ (List.mem_append_right _ (List.mem_append_right _ ((show _ ∈ my_203_12 from List.mem_of_getElem? (i := 5) rfl))))))))))))))
theorem cd_203_1153 : mt_cd 203 1153 = some (.iload 6) := mt_cd_of (q := (1153, .iload 6, 2)) mq_203 ci_203 (List.mem_append_right _ (List.mem_append_right _ (List.mem_append_right _ (List.mem_append_right _ (List.mem_append_right _ (List.mem_append_right _ (List.mem_append_right _ (List.mem_append_right _ (List.mem_append_right _ (List.mem_append_right _ (List.mem_append_right _ (List.mem_append_right _ ((show _ ∈ my_203_12 from List.mem_of_getElem? (i := 6) rfl))))))))))))))
theorem cd_203_1155 : mt_cd 203 1155 = some (.i2l) := mt_cd_of (q := (1155, .i2l, 1)) mq_203 ci_203 (List.mem_append_right _ (List.mem_append_right _ (List.mem_append_right _ (List.mem_append_right _ (List.mem_append_right _ (List.mem_append_right _ (List.mem_append_right _ (List.mem_append_right _ (List.mem_append_right _ (List.mem_append_right _ (List.mem_append_right _ (List.mem_append_right _ ((show _ ∈ my_203_12 from List.mem_of_getElem? (i := 7) rfl))))))))))))))
theorem cd_203_1156 : mt_cd 203 1156 = some (.lcmp) := mt_cd_of (q := (1156, .lcmp, 1)) mq_203 ci_203 (List.mem_append_right _ (List.mem_append_right _ (List.mem_append_right _ (List.mem_append_right _ (List.mem_append_right _ (List.mem_append_right _ (List.mem_append_right _ (List.mem_append_right _ (List.mem_append_right _ (List.mem_append_right _ (List.mem_append_right _ (List.mem_append_right _ ((show _ ∈ my_203_12 from List.mem_of_getElem? (i := 8) rfl))))))))))))))
theorem cd_203_1157 : mt_cd 203 1157 = some (.ifCond .eq 5) := mt_cd_of (q := (1157, .ifCond .eq 5, 3)) mq_203 ci_203 (List.mem_append_right _ (List.mem_append_right _ (List.mem_append_right _ (List.mem_append_right _ (List.mem_append_right _ (List.mem_append_right _ (List.mem_append_right _ (List.mem_append_right _ (List.mem_append_right _ (List.mem_append_right _ (List.mem_append_right _ (List.mem_append_right _ ((show _ ∈ my_203_12 from List.mem_of_getElem? (i := 9) rfl))))))))))))))
theorem cd_203_1160 : mt_cd 203 1160 = some (.iconst 0) := mt_cd_of (q := (1160, .iconst 0, 1)) mq_203 ci_203 (List.mem_append_right _ (List.mem_append_right _ (List.mem_append_right _ (List.mem_append_right _ (List.mem_append_right _ (List.mem_append_right _ (List.mem_append_right _ (List.mem_append_right _ (List.mem_append_right _ (List.mem_append_right _ (List.mem_append_right _ (List.mem_append_right _ ((show _ ∈ my_203_12 from List.mem_of_getElem? (i := 10) rfl))))))))))))))
theorem cd_203_1161 : mt_cd 203 1161 = some (.ireturn) := mt_cd_of (q := (1161, .ireturn, 1)) mq_203 ci_203 (List.mem_append_right _ (List.mem_append_right _ (List.mem_append_right _ (List.mem_append_right _ (List.mem_append_right _ (List.mem_append_right _ (List.mem_append_right _ (List.mem_append_right _ (List.mem_append_right _ (List.mem_append_right _ (List.mem_append_right _ (List.mem_append_right _ ((show _ ∈ my_203_12 from List.mem_of_getElem? (i := 11) rfl))))))))))))))
theorem cd_203_1162 : mt_cd 203 1162 = some (.goto 3) := mt_cd_of (q := (1162, .goto 3, 3)) mq_203 ci_203 (List.mem_append_right _ (List.mem_append_right _ (List.mem_append_right _ (List.mem_append_right _ (List.mem_append_right _ (List.mem_append_right _ (List.mem_append_right _ (List.mem_append_right _ (List.mem_append_right _ (List.mem_append_right _ (List.mem_append_right _ (List.mem_append_right _ ((show _ ∈ my_203_12 from List.mem_of_getElem? (i := 12) rfl))))))))))))))
theorem cd_203_1165 : mt_cd 203 1165 = some (.iinc 4 6) := mt_cd_of (q := (1165, .iinc 4 6, 3)) mq_203 ci_203 (List.mem_append_right _ (List.mem_append_right _ (List.mem_append_right _ (List.mem_append_right _ (List.mem_append_right _ (List.mem_append_right _ (List.mem_append_right _ (List.mem_append_right _ (List.mem_append_right _ (List.mem_append_right _ (List.mem_append_right _ (List.mem_append_right _ ((show _ ∈ my_203_12 from List.mem_of_getElem? (i := 13) rfl))))))))))))))
theorem cd_203_1168 : mt_cd 203 1168 = some (.goto (-1145)) := mt_cd_of (q := (1168, .goto (-1145), 3)) mq_203 ci_203 (List.mem_append_right _ (List.mem_append_right _ (List.mem_append_right _ (List.mem_append_right _ (List.mem_append_right _ (List.mem_append_right _ (List.mem_append_right _ (List.mem_append_right _ (List.mem_append_right _ (List.mem_append_right _ (List.mem_append_right _ (List.mem_append_right _ ((show _ ∈ my_203_12 from List.mem_of_getElem? (i := 14) rfl))))))))))))))
theorem cd_203_1171 : mt_cd 203 1171 = some (.iconst 1) := mt_cd_of (q := (1171, .iconst 1, 1)) mq_203 ci_203 (List.mem_append_right _ (List.mem_append_right _ (List.mem_append_right _ (List.mem_append_right _ (List.mem_append_right _ (List.mem_append_right _ (List.mem_append_right _ (List.mem_append_right _ (List.mem_append_right _ (List.mem_append_right _ (List.mem_append_right _ (List.mem_append_right _ ((show _ ∈ my_203_12 from List.mem_of_getElem? (i := 15) rfl))))))))))))))
theorem cd_203_1172 : mt_cd 203 1172 = some (.ireturn) := mt_cd_of (q := (1172, .ireturn, 1)) mq_203 ci_203 (List.mem_append_right _ (List.mem_append_right _ (List.mem_append_right _ (List.mem_append_right _ (List.mem_append_right _ (List.mem_append_right _ (List.mem_append_right _ (List.mem_append_right _ (List.mem_append_right _ (List.mem_append_right _ (List.mem_append_right _ (List.mem_append_right _ ((show _ ∈ my_203_12 from List.mem_of_getElem? (i := 16) rfl))))))))))))))
theorem b_203_0 {d : Nat} {Q : (Option Value ⊕ Nat) → mi_H → Prop} (n sl : Nat) (f : Nat → mi_C) {l1 : Nat} {o2 : Option Value} {o3 : Option Value} {o4 : Option Value} {o5 : Option Value} {o6 : Option Value} {o7 : Option Value} {o8 : Option Value} (h9 : n + 1 ≤ mi_NC ∧ sl + 10 ≤ mi_NS) (h10 : n < (n + 1)) (h11 : mi_W d 0 0 (mi_en 1 [.ref n]) [] ((n + 1), (sl + 10), (va_up f n (.inr (0, mt_df 0)))) (mi_Kc d 203 4 [some (.ref l1), o2, o3, o4, o5, o6, o7, o8] [.ref n] Q)) : mi_W (d + 1) 203 0 [some (.ref l1), o2, o3, o4, o5, o6, o7, o8] [] (n, sl, f) Q := by
  refine w_new cd_203_0 (show mt_c 18 8 = some 0 by decide +kernel) (by decide) h9 ?_
  refine w_dup_r cd_203_3 ?_
  exact w_invokespecial cd_203_4 (show mt_m 18 65 = some (0, 2) by decide +kernel) (Or.inl rfl) (by decide) (rest := [.ref n]) rfl (as := [.ref n]) rfl h10 ⟨Nat.le_of_ble_eq_true rfl, Nat.le_of_ble_eq_true rfl, Nat.le_of_ble_eq_true rfl⟩ h11
theorem b_203_7 {d : Nat} {Q : (Option Value ⊕ Nat) → mi_H → Prop} (n sl : Nat) (f : Nat → mi_C) {l1 : Nat} {o2 : Option Value} {o3 : Option Value} {o4 : Option Value} {o5 : Option Value} {o6 : Option Value} {o7 : Option Value} {o8 : Option Value} {s9 : Nat} (h10 : n + 1 ≤ mi_NC ∧ sl + 88 ≤ mi_NS) (h11 : n < (n + 1)) (h12 : mi_W d 135 0 (mi_en 1 [.ref n]) [] ((n + 1), (sl + 88), (va_up f n (.inr (12, mt_df 12)))) (mi_Kc d 203 12 [some (.ref l1), some (.ref s9), o3, o4, o5, o6, o7, o8] [.ref n] Q)) : mi_W (d + 1) 203 7 [some (.ref l1), o2, o3, o4, o5, o6, o7, o8] [.ref s9] (n, sl, f) Q := by
  refine w_astore_n (ls' := [some (.ref l1), some (.ref s9), o3, o4, o5, o6, o7, o8]) cd_203_7 (Nat.le_of_ble_eq_true rfl) rfl ?_
  refine w_new cd_203_8 (show mt_c 18 66 = some 12 by decide +kernel) (by decide) h10 ?_
  refine w_dup_r cd_203_11 ?_
  exact w_invokespecial cd_203_12 (show mt_m 18 68 = some (135, 2) by decide +kernel) (Or.inl rfl) (by decide) (rest := [.ref n]) rfl (as := [.ref n]) rfl h11 ⟨Nat.le_of_ble_eq_true rfl, Nat.le_of_ble_eq_true rfl, Nat.le_of_ble_eq_true rfl⟩ h12
theorem b_203_15 {d : Nat} {Q : (Option Value ⊕ Nat) → mi_H → Prop} (n sl : Nat) (f : Nat → mi_C) {l1 : Nat} {l2 : Nat} {o3 : Option Value} {o4 : Option Value} {o5 : Option Value} {o6 : Option Value} {o7 : Option Value} {o8 : Option Value} {s9 : Nat} {m10 : Nat} (h11 : ¬ 1 < (0 : Int32) ∧ Int32.toNatClampNeg 1 = m10 ∧ m10 ≤ 1000000) (h12 : n + 1 ≤ mi_NC ∧ sl + m10 ≤ mi_NS) (h13 : mi_W d 203 23 [some (.ref l1), some (.ref l2), some (.ref s9), some (.ref n), some (.int 0), o6, o7, o8] [] ((n + 1), (sl + m10), (va_up f n (.inl (3, m10, .inr (.inl (fun _ => 0)))))) Q) : mi_W d 203 15 [some (.ref l1), some (.ref l2), o3, o4, o5, o6, o7, o8] [.ref s9] (n, sl, f) Q := by
  refine w_astore_n (ls' := [some (.ref l1), some (.ref l2), some (.ref s9), o4, o5, o6, o7, o8]) cd_203_15 (Nat.le_of_ble_eq_true rfl) rfl ?_
  refine w_iconst (v := 1) cd_203_16 (by decide) ?_
  refine w_newarray cd_203_17 rfl h11 h12 ?_
  refine w_astore_n (ls' := [some (.ref l1), some (.ref l2), some (.ref s9), some (.ref n), o5, o6, o7, o8]) cd_203_19 (Nat.le_of_ble_eq_true rfl) rfl ?_
  refine w_iconst (v := 0) cd_203_20 (by decide) ?_
  refine w_istore (ls' := [some (.ref l1), some (.ref l2), some (.ref s9), some (.ref n), some (.int 0), o6, o7, o8]) cd_203_21 (Nat.le_of_ble_eq_true rfl) rfl ?_
  exact h13
theorem b_203_23 {d : Nat} {Q : (Option Value ⊕ Nat) → mi_H → Prop} (n sl : Nat) (f : Nat → mi_C) {l1 : Nat} {l2 : Nat} {l3 : Nat} {l4 : Nat} {l5 : Int32} {o6 : Option Value} {o7 : Option Value} {o8 : Option Value} (m9 ka9 : Nat) (g9 : (Nat → Int32) ⊕ (Nat → Int64) ⊕ (Nat → UInt32) ⊕ (Nat → UInt64) ⊕ (Nat → Option Nat)) (h10 : f l1 = .inl (ka9, m9, g9)) (h11 : l1 < n ∧ ka9 < mt_na) (h12 : ((Int32.ofNat m9) - 6) < l5 → mi_W d 203 1171 [some (.ref l1), some (.ref l2), some (.ref l3), some (.ref l4), some (.int l5), o6, o7, o8] [] (n, sl, f) Q) (h13 : ¬ (((Int32.ofNat m9) - 6) < l5) → mi_W d 203 33 [some (.ref l1), some (.ref l2), some (.ref l3), some (.ref l4), some (.int l5), o6, o7, o8] [] (n, sl, f) Q) : mi_W d 203 23 [some (.ref l1), some (.ref l2), some (.ref l3), some (.ref l4), some (.int l5), o6, o7, o8] [] (n, sl, f) Q := by
  refine w_iload cd_203_23 rfl ?_
  refine w_aload_n cd_203_25 rfl ?_
  refine w_arraylength cd_203_26 h10 h11 ?_
  refine w_bipush (v := 6) cd_203_27 (by decide) ?_
  refine w_isub cd_203_29 ?_
  exact w_if_icmpgt cd_203_30 (by decide) h12 h13
theorem b_203_33 {d : Nat} {Q : (Option Value ⊕ Nat) → mi_H → Prop} (n sl : Nat) (f : Nat → mi_C) {l1 : Nat} {l2 : Nat} {l3 : Nat} {l4 : Nat} {l5 : Int32} {o6 : Option Value} {o7 : Option Value} {o8 : Option Value} (m9 i9 : Nat) (g9 : Nat → Int32) {t13 : Nat} (h10 : f l1 = .inl (0, m9, .inl g9)) (h11 : l1 < n ∨ l1 = mi_SC) (h12 : mi_ix l5 m9 i9) (h14 : mi_ts 40 1125 0 13 #[72, 176, 232, 245, 356, 480, 580, 624, 756, 824, 879, 958, 1002, 1069] (((g9 i9) &&& 15) : Int32).toInt = some t13) (h15 : mi_W d 203 t13 [some (.ref l1), some (.ref l2), some (.ref l3), some (.ref l4), some (.int l5), o6, o7, o8] [] (n, sl, f) Q) : mi_W d 203 33 [some (.ref l1), some (.ref l2), some (.ref l3), some (.ref l4), some (.int l5), o6, o7, o8] [] (n, sl, f) Q := by
  refine w_aload_n cd_203_33 rfl ?_
  refine w_iload cd_203_34 rfl ?_
  refine w_iaload cd_203_36 h10 h11 h12 ?_
  refine w_bipush (v := 15) cd_203_37 (by decide) ?_
  refine w_iand cd_203_39 ?_
  exact w_tableswitch cd_203_40 h14 h15
theorem b_203_112 {d : Nat} {Q : (Option Value ⊕ Nat) → mi_H → Prop} (n sl : Nat) (f : Nat → mi_C) {l1 : Nat} {l2 : Nat} {l3 : Nat} {l4 : Nat} {l5 : Int32} {o6 : Option Value} {o7 : Option Value} {o8 : Option Value} (m9 i9 : Nat) (g9 : Nat → Int32) (m13 i13 : Nat) (g13 : Nat → Int32) (m17 i17 : Nat) (g17 : Nat → Int32) (m21 i21 : Nat) (g21 : Nat → Int32) (m25 i25 : Nat) (g25 : Nat → Int32) (h10 : f l1 = .inl (0, m9, .inl g9)) (h11 : l1 < n ∨ l1 = mi_SC) (h12 : mi_ix (l5 + 1) m9 i9) (h14 : f l1 = .inl (0, m13, .inl g13)) (h15 : l1 < n ∨ l1 = mi_SC) (h16 : mi_ix (l5 + 2) m13 i13) (h18 : f l1 = .inl (0, m17, .inl g17)) (h19 : l1 < n ∨ l1 = mi_SC) (h20 : mi_ix (l5 + 3) m17 i17) (h22 : f l1 = .inl (0, m21, .inl g21)) (h23 : l1 < n ∨ l1 = mi_SC) (h24 : mi_ix (l5 + 4) m21 i21) (h26 : f l1 = .inl (0, m25, .inl g25)) (h27 : l1 < n ∨ l1 = mi_SC) (h28 : mi_ix (l5 + 5) m25 i25) (h29 : mi_W d 13 0 (mi_en 8 [.ref l2, .int (g9 i9), .int (g13 i13), .int (g17 i17), .int (g21 i21), .int (g25 i25), .ref l4]) [] (n, sl, f) (mi_Kc d 203 144 [some (.ref l1), some (.ref l2), some (.ref l3), some (.ref l4), some (.int l5), o6, o7, o8] [] Q)) : mi_W (d + 1) 203 112 [some (.ref l1), some (.ref l2), some (.ref l3), some (.ref l4), some (.int l5), o6, o7, o8] [] (n, sl, f) Q := by
  refine w_aload_n cd_203_112 rfl ?_
  refine w_aload_n cd_203_113 rfl ?_
  refine w_iload cd_203_114 rfl ?_
  refine w_iconst (v := 1) cd_203_116 (by decide) ?_
  refine w_iadd cd_203_117 ?_
  refine w_iaload cd_203_118 h10 h11 h12 ?_
  refine w_aload_n cd_203_119 rfl ?_
  refine w_iload cd_203_120 rfl ?_
  refine w_iconst (v := 2) cd_203_122 (by decide) ?_
  refine w_iadd cd_203_123 ?_
  refine w_iaload cd_203_124 h14 h15 h16 ?_
  refine w_aload_n cd_203_125 rfl ?_
  refine w_iload cd_203_126 rfl ?_
  refine w_iconst (v := 3) cd_203_128 (by decide) ?_
  refine w_iadd cd_203_129 ?_
  refine w_iaload cd_203_130 h18 h19 h20 ?_
  refine w_aload_n cd_203_131 rfl ?_
  refine w_iload cd_203_132 rfl ?_
  refine w_iconst (v := 4) cd_203_134 (by decide) ?_
  refine w_iadd cd_203_135 ?_
  refine w_iaload cd_203_136 h22 h23 h24 ?_
  refine w_aload_n cd_203_137 rfl ?_
  refine w_iload cd_203_138 rfl ?_
  refine w_iconst (v := 5) cd_203_140 (by decide) ?_
  refine w_iadd cd_203_141 ?_
  refine w_iaload cd_203_142 h26 h27 h28 ?_
  refine w_aload_n cd_203_143 rfl ?_
  exact w_invokestatic cd_203_144 (show mt_m 18 69 = some (13, 4) by decide +kernel) (by decide) (rest := []) rfl (as := [.ref l2, .int (g9 i9), .int (g13 i13), .int (g17 i17), .int (g21 i21), .int (g25 i25), .ref l4]) rfl ⟨Nat.le_of_ble_eq_true rfl, Nat.le_of_ble_eq_true rfl, Nat.le_of_ble_eq_true rfl⟩ h29
theorem b_203_147 {d : Nat} {Q : (Option Value ⊕ Nat) → mi_H → Prop} (n sl : Nat) (f : Nat → mi_C) {l1 : Nat} {l2 : Nat} {l3 : Nat} {l4 : Nat} {l5 : Int32} {o6 : Option Value} {o7 : Option Value} {o8 : Option Value} {s9 : Int32} (m10 i10 : Nat) (g10 : Nat → Int32) (m14 i14 : Nat) (g14 : Nat → Int32) (m18 i18 : Nat) (g18 : Nat → Int32) (m22 i22 : Nat) (g22 : Nat → Int32) (m26 i26 : Nat) (g26 : Nat → Int32) {fs30 : List Value} (h11 : f l1 = .inl (0, m10, .inl g10)) (h12 : l1 < n ∨ l1 = mi_SC) (h13 : mi_ix (l5 + 1) m10 i10) (h15 : f l1 = .inl (0, m14, .inl g14)) (h16 : l1 < n ∨ l1 = mi_SC) (h17 : mi_ix (l5 + 2) m14 i14) (h19 : f l1 = .inl (0, m18, .inl g18)) (h20 : l1 < n ∨ l1 = mi_SC) (h21 : mi_ix (l5 + 3) m18 i18) (h23 : f l1 = .inl (0, m22, .inl g22)) (h24 : l1 < n ∨ l1 = mi_SC) (h25 : mi_ix (l5 + 4) m22 i22) (h27 : f l1 = .inl (0, m26, .inl g26)) (h28 : l1 < n ∨ l1 = mi_SC) (h29 : mi_ix (l5 + 5) m26 i26) (h31 : f l3 = .inr (12, fs30)) (h32 : l3 < n) (h33 : mi_W d 138 0 (mi_en 8 [.ref l3, .int (g10 i10), .int (g14 i14), .int (g18 i18), .int (g22 i22), .int (g26 i26)]) [] (n, sl, f) (mi_Kc d 203 180 [some (.ref l1), some (.ref l2), some (.ref l3), some (.ref l4), some (.int l5), some (.int s9), o7, o8] [] Q)) : mi_W (d + 1) 203 147 [some (.ref l1), some (.ref l2), some (.ref l3), some (.ref l4), some (.int l5), o6, o7, o8] [.int s9] (n, sl, f) Q := by
  refine w_istore (ls' := [some (.ref l1), some (.ref l2), some (.ref l3), some (.ref l4), some (.int l5), some (.int s9), o7, o8]) cd_203_147 (Nat.le_of_ble_eq_true rfl) rfl ?_
  refine w_aload_n cd_203_149 rfl ?_
  refine w_aload_n cd_203_150 rfl ?_
  refine w_iload cd_203_151 rfl ?_
  refine w_iconst (v := 1) cd_203_153 (by decide) ?_
  refine w_iadd cd_203_154 ?_
  refine w_iaload cd_203_155 h11 h12 h13 ?_
  refine w_aload_n cd_203_156 rfl ?_
  refine w_iload cd_203_157 rfl ?_
  refine w_iconst (v := 2) cd_203_159 (by decide) ?_
  refine w_iadd cd_203_160 ?_
  refine w_iaload cd_203_161 h15 h16 h17 ?_
  refine w_aload_n cd_203_162 rfl ?_
  refine w_iload cd_203_163 rfl ?_
  refine w_iconst (v := 3) cd_203_165 (by decide) ?_
  refine w_iadd cd_203_166 ?_
  refine w_iaload cd_203_167 h19 h20 h21 ?_
  refine w_aload_n cd_203_168 rfl ?_
  refine w_iload cd_203_169 rfl ?_
  refine w_iconst (v := 4) cd_203_171 (by decide) ?_
  refine w_iadd cd_203_172 ?_
  refine w_iaload cd_203_173 h23 h24 h25 ?_
  refine w_aload_n cd_203_174 rfl ?_
  refine w_iload cd_203_175 rfl ?_
  refine w_iconst (v := 5) cd_203_177 (by decide) ?_
  refine w_iadd cd_203_178 ?_
  refine w_iaload cd_203_179 h27 h28 h29 ?_
  exact w_invokevirtual cd_203_180 (show mt_m 18 74 = some (138, 0) by decide +kernel) (rest := []) rfl (as := [.ref l3, .int (g10 i10), .int (g14 i14), .int (g18 i18), .int (g22 i22), .int (g26 i26)]) rfl h31 (Or.inl h32) ⟨Nat.le_of_ble_eq_true rfl, Nat.le_of_ble_eq_true rfl, Nat.le_of_ble_eq_true rfl⟩ h33
theorem b_203_183 {d : Nat} {Q : (Option Value ⊕ Nat) → mi_H → Prop} (n sl : Nat) (f : Nat → mi_C) {l1 : Nat} {l2 : Nat} {l3 : Nat} {l4 : Nat} {l5 : Int32} {l6 : Int32} {o7 : Option Value} {o8 : Option Value} {s9 : Int32} {fs10 : List Value} (h11 : f l3 = .inr (12, fs10)) (h12 : l3 < n) (h13 : mi_W d 137 0 (mi_en 1 [.ref l3]) [] (n, sl, f) (mi_Kc d 203 186 [some (.ref l1), some (.ref l2), some (.ref l3), some (.ref l4), some (.int l5), some (.int l6), some (.int s9), o8] [] Q)) : mi_W (d + 1) 203 183 [some (.ref l1), some (.ref l2), some (.ref l3), some (.ref l4), some (.int l5), some (.int l6), o7, o8] [.int s9] (n, sl, f) Q := by
  refine w_istore (ls' := [some (.ref l1), some (.ref l2), some (.ref l3), some (.ref l4), some (.int l5), some (.int l6), some (.int s9), o8]) cd_203_183 (Nat.le_of_ble_eq_true rfl) rfl ?_
  refine w_aload_n cd_203_185 rfl ?_
  exact w_invokevirtual cd_203_186 (show mt_m 18 75 = some (137, 0) by decide +kernel) (rest := []) rfl (as := [.ref l3]) rfl h11 (Or.inl h12) ⟨Nat.le_of_ble_eq_true rfl, Nat.le_of_ble_eq_true rfl, Nat.le_of_ble_eq_true rfl⟩ h13
theorem b_203_189 {d : Nat} {Q : (Option Value ⊕ Nat) → mi_H → Prop} (n sl : Nat) (f : Nat → mi_C) {l1 : Nat} {l2 : Nat} {l3 : Nat} {l4 : Nat} {l5 : Int32} {l6 : Int32} {l7 : Int32} {o8 : Option Value} {s9 : Int32} (h10 : s9 = l6 → mi_W d 203 196 [some (.ref l1), some (.ref l2), some (.ref l3), some (.ref l4), some (.int l5), some (.int l6), some (.int l7), o8] [] (n, sl, f) Q) (h11 : ¬ (s9 = l6) → mi_W d 203 194 [some (.ref l1), some (.ref l2), some (.ref l3), some (.ref l4), some (.int l5), some (.int l6), some (.int l7), o8] [] (n, sl, f) Q) : mi_W d 203 189 [some (.ref l1), some (.ref l2), some (.ref l3), some (.ref l4), some (.int l5), some (.int l6), some (.int l7), o8] [.int s9] (n, sl, f) Q := by
  refine w_iload cd_203_189 rfl ?_
  exact w_if_icmpeq cd_203_191 (by decide) h10 h11
theorem b_203_194 {d : Nat} {Q : (Option Value ⊕ Nat) → mi_H → Prop} (n sl : Nat) (f : Nat → mi_C) {l1 : Nat} {l2 : Nat} {l3 : Nat} {l4 : Nat} {l5 : Int32} {l6 : Int32} {l7 : Int32} {o8 : Option Value} (h9 : Q (.inl (some (.int 0))) (n, sl, f)) : mi_W d 203 194 [some (.ref l1), some (.ref l2), some (.ref l3), some (.ref l4), some (.int l5), some (.int l6), some (.int l7), o8] [] (n, sl, f) Q := by
  refine w_iconst (v := 0) cd_203_194 (by decide) ?_
  exact w_ireturn_z cd_203_195 (by decide +kernel) (by decide) h9
theorem b_203_196 {d : Nat} {Q : (Option Value ⊕ Nat) → mi_H → Prop} (n sl : Nat) (f : Nat → mi_C) {l1 : Nat} {l2 : Nat} {l3 : Nat} {l4 : Nat} {l5 : Int32} {l6 : Int32} {l7 : Int32} {o8 : Option Value} (h9 : ¬ l6 = (0 : Int32) → mi_W d 203 213 [some (.ref l1), some (.ref l2), some (.ref l3), some (.ref l4), some (.int l5), some (.int l6), some (.int l7), o8] [] (n, sl, f) Q) (h10 : ¬ (¬ l6 = (0 : Int32)) → mi_W d 203 201 [some (.ref l1), some (.ref l2), some (.ref l3), some (.ref l4), some (.int l5), some (.int l6), some (.int l7), o8] [] (n, sl, f) Q) : mi_W d 203 196 [some (.ref l1), some (.ref l2), some (.ref l3), some (.ref l4), some (.int l5), some (.int l6), some (.int l7), o8] [] (n, sl, f) Q := by
  refine w_iload cd_203_196 rfl ?_
  exact w_ifne cd_203_198 (by decide) h9 h10
theorem b_203_201 {d : Nat} {Q : (Option Value ⊕ Nat) → mi_H → Prop} (n sl : Nat) (f : Nat → mi_C) {l1 : Nat} {l2 : Nat} {l3 : Nat} {l4 : Nat} {l5 : Int32} {l6 : Int32} {l7 : Int32} {o8 : Option Value} (m9 i9 : Nat) (g9 : Nat → Int64) (h10 : f l4 = .inl (3, m9, .inr (.inl g9))) (h11 : l4 < n) (h12 : mi_ix 0 m9 i9) (h13 : (lg_cmp (g9 i9) ((l7 : Int32).toInt64)) = (0 : Int32) → mi_W d 203 213 [some (.ref l1), some (.ref l2), some (.ref l3), some (.ref l4), some (.int l5), some (.int l6), some (.int l7), o8] [] (n, sl, f) Q) (h14 : ¬ ((lg_cmp (g9 i9) ((l7 : Int32).toInt64)) = (0 : Int32)) → mi_W d 203 211 [some (.ref l1), some (.ref l2), some (.ref l3), some (.ref l4), some (.int l5), some (.int l6), some (.int l7), o8] [] (n, sl, f) Q) : mi_W d 203 201 [some (.ref l1), some (.ref l2), some (.ref l3), some (.ref l4), some (.int l5), some (.int l6), some (.int l7), o8] [] (n, sl, f) Q := by
  refine w_aload_n cd_203_201 rfl ?_
  refine w_iconst (v := 0) cd_203_202 (by decide) ?_
  refine w_laload cd_203_203 h10 h11 h12 ?_
  refine w_iload cd_203_204 rfl ?_
  refine w_i2l cd_203_206 ?_
  refine w_lcmp cd_203_207 ?_
  exact w_ifeq cd_203_208 (by decide) h13 h14
theorem b_203_211 {d : Nat} {Q : (Option Value ⊕ Nat) → mi_H → Prop} (n sl : Nat) (f : Nat → mi_C) {l1 : Nat} {l2 : Nat} {l3 : Nat} {l4 : Nat} {l5 : Int32} {l6 : Int32} {l7 : Int32} {o8 : Option Value} (h9 : Q (.inl (some (.int 0))) (n, sl, f)) : mi_W d 203 211 [some (.ref l1), some (.ref l2), some (.ref l3), some (.ref l4), some (.int l5), some (.int l6), some (.int l7), o8] [] (n, sl, f) Q := by
  refine w_iconst (v := 0) cd_203_211 (by decide) ?_
  exact w_ireturn_z cd_203_212 (by decide +kernel) (by decide) h9
theorem b_203_213 {d : Nat} {Q : (Option Value ⊕ Nat) → mi_H → Prop} (n sl : Nat) (f : Nat → mi_C) {l1 : Nat} {l2 : Nat} {l3 : Nat} {l4 : Nat} {l5 : Int32} {l6 : Int32} {l7 : Int32} {o8 : Option Value} (h9 : mi_W d 203 1165 [some (.ref l1), some (.ref l2), some (.ref l3), some (.ref l4), some (.int l5), some (.int l6), some (.int l7), o8] [] (n, sl, f) Q) : mi_W d 203 213 [some (.ref l1), some (.ref l2), some (.ref l3), some (.ref l4), some (.int l5), some (.int l6), some (.int l7), o8] [] (n, sl, f) Q := by
  exact w_goto cd_203_213 (by decide) h9
theorem b_203_216 {d : Nat} {Q : (Option Value ⊕ Nat) → mi_H → Prop} (n sl : Nat) (f : Nat → mi_C) {l1 : Nat} {l2 : Nat} {l3 : Nat} {l4 : Nat} {l5 : Int32} {o6 : Option Value} {o7 : Option Value} {o8 : Option Value} (m9 i9 : Nat) (g9 : Nat → Int32) (h10 : f l1 = .inl (0, m9, .inl g9)) (h11 : l1 < n ∨ l1 = mi_SC) (h12 : mi_ix (l5 + 1) m9 i9) (h13 : mi_W d 16 0 (mi_en 4 [.ref l2, .int (g9 i9), .ref l4]) [] (n, sl, f) (mi_Kc d 203 224 [some (.ref l1), some (.ref l2), some (.ref l3), some (.ref l4), some (.int l5), o6, o7, o8] [] Q)) : mi_W (d + 1) 203 216 [some (.ref l1), some (.ref l2), some (.ref l3), some (.ref l4), some (.int l5), o6, o7, o8] [] (n, sl, f) Q := by
  refine w_aload_n cd_203_216 rfl ?_
  refine w_aload_n cd_203_217 rfl ?_
  refine w_iload cd_203_218 rfl ?_
  refine w_iconst (v := 1) cd_203_220 (by decide) ?_
  refine w_iadd cd_203_221 ?_
  refine w_iaload cd_203_222 h10 h11 h12 ?_
  refine w_aload_n cd_203_223 rfl ?_
  exact w_invokestatic cd_203_224 (show mt_m 18 78 = some (16, 4) by decide +kernel) (by decide) (rest := []) rfl (as := [.ref l2, .int (g9 i9), .ref l4]) rfl ⟨Nat.le_of_ble_eq_true rfl, Nat.le_of_ble_eq_true rfl, Nat.le_of_ble_eq_true rfl⟩ h13
theorem b_203_227 {d : Nat} {Q : (Option Value ⊕ Nat) → mi_H → Prop} (n sl : Nat) (f : Nat → mi_C) {l1 : Nat} {l2 : Nat} {l3 : Nat} {l4 : Nat} {l5 : Int32} {o6 : Option Value} {o7 : Option Value} {o8 : Option Value} {s9 : Int32} (m10 i10 : Nat) (g10 : Nat → Int32) {fs14 : List Value} (h11 : f l1 = .inl (0, m10, .inl g10)) (h12 : l1 < n ∨ l1 = mi_SC) (h13 : mi_ix (l5 + 1) m10 i10) (h15 : f l3 = .inr (12, fs14)) (h16 : l3 < n) (h17 : mi_W d 140 0 (mi_en 3 [.ref l3, .int (g10 i10)]) [] (n, sl, f) (mi_Kc d 203 236 [some (.ref l1), some (.ref l2), some (.ref l3), some (.ref l4), some (.int l5), some (.int s9), o7, o8] [] Q)) : mi_W (d + 1) 203 227 [some (.ref l1), some (.ref l2), some (.ref l3), some (.ref l4), some (.int l5), o6, o7, o8] [.int s9] (n, sl, f) Q := by
  refine w_istore (ls' := [some (.ref l1), some (.ref l2), some (.ref l3), some (.ref l4), some (.int l5), some (.int s9), o7, o8]) cd_203_227 (Nat.le_of_ble_eq_true rfl) rfl ?_
  refine w_aload_n cd_203_229 rfl ?_
  refine w_aload_n cd_203_230 rfl ?_
  refine w_iload cd_203_231 rfl ?_
  refine w_iconst (v := 1) cd_203_233 (by decide) ?_
  refine w_iadd cd_203_234 ?_
  refine w_iaload cd_203_235 h11 h12 h13 ?_
  exact w_invokevirtual cd_203_236 (show mt_m 18 81 = some (140, 0) by decide +kernel) (rest := []) rfl (as := [.ref l3, .int (g10 i10)]) rfl h15 (Or.inl h16) ⟨Nat.le_of_ble_eq_true rfl, Nat.le_of_ble_eq_true rfl, Nat.le_of_ble_eq_true rfl⟩ h17
theorem b_203_239 {d : Nat} {Q : (Option Value ⊕ Nat) → mi_H → Prop} (n sl : Nat) (f : Nat → mi_C) {l1 : Nat} {l2 : Nat} {l3 : Nat} {l4 : Nat} {l5 : Int32} {l6 : Int32} {o7 : Option Value} {o8 : Option Value} {s9 : Int32} {fs10 : List Value} (h11 : f l3 = .inr (12, fs10)) (h12 : l3 < n) (h13 : mi_W d 137 0 (mi_en 1 [.ref l3]) [] (n, sl, f) (mi_Kc d 203 242 [some (.ref l1), some (.ref l2), some (.ref l3), some (.ref l4), some (.int l5), some (.int l6), some (.int s9), o8] [] Q)) : mi_W (d + 1) 203 239 [some (.ref l1), some (.ref l2), some (.ref l3), some (.ref l4), some (.int l5), some (.int l6), o7, o8] [.int s9] (n, sl, f) Q := by
  refine w_istore (ls' := [some (.ref l1), some (.ref l2), some (.ref l3), some (.ref l4), some (.int l5), some (.int l6), some (.int s9), o8]) cd_203_239 (Nat.le_of_ble_eq_true rfl) rfl ?_
  refine w_aload_n cd_203_241 rfl ?_
  exact w_invokevirtual cd_203_242 (show mt_m 18 75 = some (137, 0) by decide +kernel) (rest := []) rfl (as := [.ref l3]) rfl h11 (Or.inl h12) ⟨Nat.le_of_ble_eq_true rfl, Nat.le_of_ble_eq_true rfl, Nat.le_of_ble_eq_true rfl⟩ h13
theorem b_203_245 {d : Nat} {Q : (Option Value ⊕ Nat) → mi_H → Prop} (n sl : Nat) (f : Nat → mi_C) {l1 : Nat} {l2 : Nat} {l3 : Nat} {l4 : Nat} {l5 : Int32} {l6 : Int32} {l7 : Int32} {o8 : Option Value} {s9 : Int32} (h10 : s9 = l6 → mi_W d 203 252 [some (.ref l1), some (.ref l2), some (.ref l3), some (.ref l4), some (.int l5), some (.int l6), some (.int l7), o8] [] (n, sl, f) Q) (h11 : ¬ (s9 = l6) → mi_W d 203 250 [some (.ref l1), some (.ref l2), some (.ref l3), some (.ref l4), some (.int l5), some (.int l6), some (.int l7), o8] [] (n, sl, f) Q) : mi_W d 203 245 [some (.ref l1), some (.ref l2), some (.ref l3), some (.ref l4), some (.int l5), some (.int l6), some (.int l7), o8] [.int s9] (n, sl, f) Q := by
  refine w_iload cd_203_245 rfl ?_
  exact w_if_icmpeq cd_203_247 (by decide) h10 h11
theorem b_203_250 {d : Nat} {Q : (Option Value ⊕ Nat) → mi_H → Prop} (n sl : Nat) (f : Nat → mi_C) {l1 : Nat} {l2 : Nat} {l3 : Nat} {l4 : Nat} {l5 : Int32} {l6 : Int32} {l7 : Int32} {o8 : Option Value} (h9 : Q (.inl (some (.int 0))) (n, sl, f)) : mi_W d 203 250 [some (.ref l1), some (.ref l2), some (.ref l3), some (.ref l4), some (.int l5), some (.int l6), some (.int l7), o8] [] (n, sl, f) Q := by
  refine w_iconst (v := 0) cd_203_250 (by decide) ?_
  exact w_ireturn_z cd_203_251 (by decide +kernel) (by decide) h9
theorem b_203_252 {d : Nat} {Q : (Option Value ⊕ Nat) → mi_H → Prop} (n sl : Nat) (f : Nat → mi_C) {l1 : Nat} {l2 : Nat} {l3 : Nat} {l4 : Nat} {l5 : Int32} {l6 : Int32} {l7 : Int32} {o8 : Option Value} (h9 : ¬ l6 = (0 : Int32) → mi_W d 203 269 [some (.ref l1), some (.ref l2), some (.ref l3), some (.ref l4), some (.int l5), some (.int l6), some (.int l7), o8] [] (n, sl, f) Q) (h10 : ¬ (¬ l6 = (0 : Int32)) → mi_W d 203 257 [some (.ref l1), some (.ref l2), some (.ref l3), some (.ref l4), some (.int l5), some (.int l6), some (.int l7), o8] [] (n, sl, f) Q) : mi_W d 203 252 [some (.ref l1), some (.ref l2), some (.ref l3), some (.ref l4), some (.int l5), some (.int l6), some (.int l7), o8] [] (n, sl, f) Q := by
  refine w_iload cd_203_252 rfl ?_
  exact w_ifne cd_203_254 (by decide) h9 h10
theorem b_203_257 {d : Nat} {Q : (Option Value ⊕ Nat) → mi_H → Prop} (n sl : Nat) (f : Nat → mi_C) {l1 : Nat} {l2 : Nat} {l3 : Nat} {l4 : Nat} {l5 : Int32} {l6 : Int32} {l7 : Int32} {o8 : Option Value} (m9 i9 : Nat) (g9 : Nat → Int64) (h10 : f l4 = .inl (3, m9, .inr (.inl g9))) (h11 : l4 < n) (h12 : mi_ix 0 m9 i9) (h13 : (lg_cmp (g9 i9) ((l7 : Int32).toInt64)) = (0 : Int32) → mi_W d 203 269 [some (.ref l1), some (.ref l2), some (.ref l3), some (.ref l4), some (.int l5), some (.int l6), some (.int l7), o8] [] (n, sl, f) Q) (h14 : ¬ ((lg_cmp (g9 i9) ((l7 : Int32).toInt64)) = (0 : Int32)) → mi_W d 203 267 [some (.ref l1), some (.ref l2), some (.ref l3), some (.ref l4), some (.int l5), some (.int l6), some (.int l7), o8] [] (n, sl, f) Q) : mi_W d 203 257 [some (.ref l1), some (.ref l2), some (.ref l3), some (.ref l4), some (.int l5), some (.int l6), some (.int l7), o8] [] (n, sl, f) Q := by
  refine w_aload_n cd_203_257 rfl ?_
  refine w_iconst (v := 0) cd_203_258 (by decide) ?_
  refine w_laload cd_203_259 h10 h11 h12 ?_
  refine w_iload cd_203_260 rfl ?_
  refine w_i2l cd_203_262 ?_
  refine w_lcmp cd_203_263 ?_
  exact w_ifeq cd_203_264 (by decide) h13 h14
theorem b_203_267 {d : Nat} {Q : (Option Value ⊕ Nat) → mi_H → Prop} (n sl : Nat) (f : Nat → mi_C) {l1 : Nat} {l2 : Nat} {l3 : Nat} {l4 : Nat} {l5 : Int32} {l6 : Int32} {l7 : Int32} {o8 : Option Value} (h9 : Q (.inl (some (.int 0))) (n, sl, f)) : mi_W d 203 267 [some (.ref l1), some (.ref l2), some (.ref l3), some (.ref l4), some (.int l5), some (.int l6), some (.int l7), o8] [] (n, sl, f) Q := by
  refine w_iconst (v := 0) cd_203_267 (by decide) ?_
  exact w_ireturn_z cd_203_268 (by decide +kernel) (by decide) h9
theorem b_203_269 {d : Nat} {Q : (Option Value ⊕ Nat) → mi_H → Prop} (n sl : Nat) (f : Nat → mi_C) {l1 : Nat} {l2 : Nat} {l3 : Nat} {l4 : Nat} {l5 : Int32} {l6 : Int32} {l7 : Int32} {o8 : Option Value} (h9 : mi_W d 203 1165 [some (.ref l1), some (.ref l2), some (.ref l3), some (.ref l4), some (.int l5), some (.int l6), some (.int l7), o8] [] (n, sl, f) Q) : mi_W d 203 269 [some (.ref l1), some (.ref l2), some (.ref l3), some (.ref l4), some (.int l5), some (.int l6), some (.int l7), o8] [] (n, sl, f) Q := by
  exact w_goto cd_203_269 (by decide) h9
theorem b_203_272 {d : Nat} {Q : (Option Value ⊕ Nat) → mi_H → Prop} (n sl : Nat) (f : Nat → mi_C) {l1 : Nat} {l2 : Nat} {l3 : Nat} {l4 : Nat} {l5 : Int32} {o6 : Option Value} {o7 : Option Value} {o8 : Option Value} {fs9 : List Value} (h10 : f l2 = .inr (0, fs9)) (h11 : l2 < n) (h12 : mi_W d 12 0 (mi_en 1 [.ref l2]) [] (n, sl, f) (mi_Kc d 203 273 [some (.ref l1), some (.ref l2), some (.ref l3), some (.ref l4), some (.int l5), o6, o7, o8] [] Q)) : mi_W (d + 1) 203 272 [some (.ref l1), some (.ref l2), some (.ref l3), some (.ref l4), some (.int l5), o6, o7, o8] [] (n, sl, f) Q := by
  refine w_aload_n cd_203_272 rfl ?_
  exact w_invokevirtual cd_203_273 (show mt_m 18 82 = some (12, 0) by decide +kernel) (rest := []) rfl (as := [.ref l2]) rfl h10 (Or.inl h11) ⟨Nat.le_of_ble_eq_true rfl, Nat.le_of_ble_eq_true rfl, Nat.le_of_ble_eq_true rfl⟩ h12
theorem b_203_276 {d : Nat} {Q : (Option Value ⊕ Nat) → mi_H → Prop} (n sl : Nat) (f : Nat → mi_C) {l1 : Nat} {l2 : Nat} {l3 : Nat} {l4 : Nat} {l5 : Int32} {o6 : Option Value} {o7 : Option Value} {o8 : Option Value} {s9 : Int32} {fs10 : List Value} (h11 : f l3 = .inr (12, fs10)) (h12 : l3 < n) (h13 : mi_W d 170 0 (mi_en 1 [.ref l3]) [] (n, sl, f) (mi_Kc d 203 277 [some (.ref l1), some (.ref l2), some (.ref l3), some (.ref l4), some (.int l5), o6, o7, o8] [.int s9] Q)) : mi_W (d + 1) 203 276 [some (.ref l1), some (.ref l2), some (.ref l3), some (.ref l4), some (.int l5), o6, o7, o8] [.int s9] (n, sl, f) Q := by
  refine w_aload_n cd_203_276 rfl ?_
  exact w_invokevirtual cd_203_277 (show mt_m 18 85 = some (170, 0) by decide +kernel) (rest := [.int s9]) rfl (as := [.ref l3]) rfl h11 (Or.inl h12) ⟨Nat.le_of_ble_eq_true rfl, Nat.le_of_ble_eq_true rfl, Nat.le_of_ble_eq_true rfl⟩ h13
theorem b_203_280 {d : Nat} {Q : (Option Value ⊕ Nat) → mi_H → Prop} (n sl : Nat) (f : Nat → mi_C) {l1 : Nat} {l2 : Nat} {l3 : Nat} {l4 : Nat} {l5 : Int32} {o6 : Option Value} {o7 : Option Value} {o8 : Option Value} {s9 : Int32} {s10 : Int32} (h11 : s10 = s9 → mi_W d 203 1165 [some (.ref l1), some (.ref l2), some (.ref l3), some (.ref l4), some (.int l5), o6, o7, o8] [] (n, sl, f) Q) (h12 : ¬ (s10 = s9) → mi_W d 203 283 [some (.ref l1), some (.ref l2), some (.ref l3), some (.ref l4), some (.int l5), o6, o7, o8] [] (n, sl, f) Q) : mi_W d 203 280 [some (.ref l1), some (.ref l2), some (.ref l3), some (.ref l4), some (.int l5), o6, o7, o8] [.int s9, .int s10] (n, sl, f) Q := by
  exact w_if_icmpeq cd_203_280 (by decide) h11 h12
theorem b_203_283 {d : Nat} {Q : (Option Value ⊕ Nat) → mi_H → Prop} (n sl : Nat) (f : Nat → mi_C) {l1 : Nat} {l2 : Nat} {l3 : Nat} {l4 : Nat} {l5 : Int32} {o6 : Option Value} {o7 : Option Value} {o8 : Option Value} (h9 : Q (.inl (some (.int 0))) (n, sl, f)) : mi_W d 203 283 [some (.ref l1), some (.ref l2), some (.ref l3), some (.ref l4), some (.int l5), o6, o7, o8] [] (n, sl, f) Q := by
  refine w_iconst (v := 0) cd_203_283 (by decide) ?_
  exact w_ireturn_z cd_203_284 (by decide +kernel) (by decide) h9
theorem b_203_285 {d : Nat} {Q : (Option Value ⊕ Nat) → mi_H → Prop} (n sl : Nat) (f : Nat → mi_C) {l1 : Nat} {l2 : Nat} {l3 : Nat} {l4 : Nat} {l5 : Int32} {o6 : Option Value} {o7 : Option Value} {o8 : Option Value} (m9 i9 : Nat) (g9 : Nat → Int32) (m13 i13 : Nat) (g13 : Nat → Int32) (m17 i17 : Nat) (g17 : Nat → Int32) (m21 i21 : Nat) (g21 : Nat → Int32) (h10 : f l1 = .inl (0, m9, .inl g9)) (h11 : l1 < n ∨ l1 = mi_SC) (h12 : mi_ix (l5 + 1) m9 i9) (h14 : f l1 = .inl (0, m13, .inl g13)) (h15 : l1 < n ∨ l1 = mi_SC) (h16 : mi_ix (l5 + 2) m13 i13) (h18 : f l1 = .inl (0, m17, .inl g17)) (h19 : l1 < n ∨ l1 = mi_SC) (h20 : mi_ix (l5 + 3) m17 i17) (h22 : f l1 = .inl (0, m21, .inl g21)) (h23 : l1 < n ∨ l1 = mi_SC) (h24 : mi_ix (l5 + 4) m21 i21) (h25 : mi_W d 56 0 (mi_en 7 [.ref l2, .int (g9 i9), .int (g13 i13), .long (((((g17 i17) : Int32).toInt64) <<< ((32 : Int32).toInt64 &&& 63)) ||| ((((g21 i21) : Int32).toInt64) &&& 4294967295)), .ref l4]) [] (n, sl, f) (mi_Kc d 203 321 [some (.ref l1), some (.ref l2), some (.ref l3), some (.ref l4), some (.int l5), o6, o7, o8] [] Q)) : mi_W (d + 1) 203 285 [some (.ref l1), some (.ref l2), some (.ref l3), some (.ref l4), some (.int l5), o6, o7, o8] [] (n, sl, f) Q := by
  refine w_aload_n cd_203_285 rfl ?_
  refine w_aload_n cd_203_286 rfl ?_
  refine w_iload cd_203_287 rfl ?_
  refine w_iconst (v := 1) cd_203_289 (by decide) ?_
  refine w_iadd cd_203_290 ?_
  refine w_iaload cd_203_291 h10 h11 h12 ?_
  refine w_aload_n cd_203_292 rfl ?_
  refine w_iload cd_203_293 rfl ?_
  refine w_iconst (v := 2) cd_203_295 (by decide) ?_
  refine w_iadd cd_203_296 ?_
  refine w_iaload cd_203_297 h14 h15 h16 ?_
  refine w_aload_n cd_203_298 rfl ?_
  refine w_iload cd_203_299 rfl ?_
  refine w_iconst (v := 3) cd_203_301 (by decide) ?_
  refine w_iadd cd_203_302 ?_
  refine w_iaload cd_203_303 h18 h19 h20 ?_
  refine w_i2l cd_203_304 ?_
  refine w_bipush (v := 32) cd_203_305 (by decide) ?_
  refine w_lshl cd_203_307 ?_
  refine w_aload_n cd_203_308 rfl ?_
  refine w_iload cd_203_309 rfl ?_
  refine w_iconst (v := 4) cd_203_311 (by decide) ?_
  refine w_iadd cd_203_312 ?_
  refine w_iaload cd_203_313 h22 h23 h24 ?_
  refine w_i2l cd_203_314 ?_
  refine w_ldc2_w (lv := 4294967295) cd_203_315 (by decide +kernel) ?_
  refine w_land cd_203_318 ?_
  refine w_lor cd_203_319 ?_
  refine w_aload_n cd_203_320 rfl ?_
  exact w_invokestatic cd_203_321 (show mt_m 18 88 = some (56, 4) by decide +kernel) (by decide) (rest := []) rfl (as := [.ref l2, .int (g9 i9), .int (g13 i13), .long (((((g17 i17) : Int32).toInt64) <<< ((32 : Int32).toInt64 &&& 63)) ||| ((((g21 i21) : Int32).toInt64) &&& 4294967295)), .ref l4]) rfl ⟨Nat.le_of_ble_eq_true rfl, Nat.le_of_ble_eq_true rfl, Nat.le_of_ble_eq_true rfl⟩ h25
theorem b_203_324 {d : Nat} {Q : (Option Value ⊕ Nat) → mi_H → Prop} (n sl : Nat) (f : Nat → mi_C) {l1 : Nat} {l2 : Nat} {l3 : Nat} {l4 : Nat} {l5 : Int32} {o6 : Option Value} {o7 : Option Value} {o8 : Option Value} {s9 : Int32} (m10 i10 : Nat) (g10 : Nat → Int32) (m14 i14 : Nat) (g14 : Nat → Int32) (m18 i18 : Nat) (g18 : Nat → Int32) (m22 i22 : Nat) (g22 : Nat → Int32) {fs26 : List Value} (h11 : f l1 = .inl (0, m10, .inl g10)) (h12 : l1 < n ∨ l1 = mi_SC) (h13 : mi_ix (l5 + 1) m10 i10) (h15 : f l1 = .inl (0, m14, .inl g14)) (h16 : l1 < n ∨ l1 = mi_SC) (h17 : mi_ix (l5 + 2) m14 i14) (h19 : f l1 = .inl (0, m18, .inl g18)) (h20 : l1 < n ∨ l1 = mi_SC) (h21 : mi_ix (l5 + 3) m18 i18) (h23 : f l1 = .inl (0, m22, .inl g22)) (h24 : l1 < n ∨ l1 = mi_SC) (h25 : mi_ix (l5 + 4) m22 i22) (h27 : f l3 = .inr (12, fs26)) (h28 : l3 < n) (h29 : mi_W d 185 0 (mi_en 7 [.ref l3, .int (g10 i10), .int (g14 i14), .long (((((g18 i18) : Int32).toInt64) <<< ((32 : Int32).toInt64 &&& 63)) ||| ((((g22 i22) : Int32).toInt64) &&& 4294967295))]) [] (n, sl, f) (mi_Kc d 203 361 [some (.ref l1), some (.ref l2), some (.ref l3), some (.ref l4), some (.int l5), some (.int s9), o7, o8] [] Q)) : mi_W (d + 1) 203 324 [some (.ref l1), some (.ref l2), some (.ref l3), some (.ref l4), some (.int l5), o6, o7, o8] [.int s9] (n, sl, f) Q := by
  refine w_istore (ls' := [some (.ref l1), some (.ref l2), some (.ref l3), some (.ref l4), some (.int l5), some (.int s9), o7, o8]) cd_203_324 (Nat.le_of_ble_eq_true rfl) rfl ?_
  refine w_aload_n cd_203_326 rfl ?_
  refine w_aload_n cd_203_327 rfl ?_
  refine w_iload cd_203_328 rfl ?_
  refine w_iconst (v := 1) cd_203_330 (by decide) ?_
  refine w_iadd cd_203_331 ?_
  refine w_iaload cd_203_332 h11 h12 h13 ?_
  refine w_aload_n cd_203_333 rfl ?_
  refine w_iload cd_203_334 rfl ?_
  refine w_iconst (v := 2) cd_203_336 (by decide) ?_
  refine w_iadd cd_203_337 ?_
  refine w_iaload cd_203_338 h15 h16 h17 ?_
  refine w_aload_n cd_203_339 rfl ?_
  refine w_iload cd_203_340 rfl ?_
  refine w_iconst (v := 3) cd_203_342 (by decide) ?_
  refine w_iadd cd_203_343 ?_
  refine w_iaload cd_203_344 h19 h20 h21 ?_
  refine w_i2l cd_203_345 ?_
  refine w_bipush (v := 32) cd_203_346 (by decide) ?_
  refine w_lshl cd_203_348 ?_
  refine w_aload_n cd_203_349 rfl ?_
  refine w_iload cd_203_350 rfl ?_
  refine w_iconst (v := 4) cd_203_352 (by decide) ?_
  refine w_iadd cd_203_353 ?_
  refine w_iaload cd_203_354 h23 h24 h25 ?_
  refine w_i2l cd_203_355 ?_
  refine w_ldc2_w (lv := 4294967295) cd_203_356 (by decide +kernel) ?_
  refine w_land cd_203_359 ?_
  refine w_lor cd_203_360 ?_
  exact w_invokevirtual cd_203_361 (show mt_m 18 91 = some (185, 0) by decide +kernel) (rest := []) rfl (as := [.ref l3, .int (g10 i10), .int (g14 i14), .long (((((g18 i18) : Int32).toInt64) <<< ((32 : Int32).toInt64 &&& 63)) ||| ((((g22 i22) : Int32).toInt64) &&& 4294967295))]) rfl h27 (Or.inl h28) ⟨Nat.le_of_ble_eq_true rfl, Nat.le_of_ble_eq_true rfl, Nat.le_of_ble_eq_true rfl⟩ h29
theorem b_203_364 {d : Nat} {Q : (Option Value ⊕ Nat) → mi_H → Prop} (n sl : Nat) (f : Nat → mi_C) {l1 : Nat} {l2 : Nat} {l3 : Nat} {l4 : Nat} {l5 : Int32} {l6 : Int32} {o7 : Option Value} {o8 : Option Value} {s9 : Int64} {fs10 : List Value} (h11 : f l3 = .inr (12, fs10)) (h12 : l3 < n) (h13 : mi_W d 137 0 (mi_en 1 [.ref l3]) [] (n, sl, f) (mi_Kc d 203 367 [some (.ref l1), some (.ref l2), some (.ref l3), some (.ref l4), some (.int l5), some (.int l6), some (.long s9), none] [] Q)) : mi_W (d + 1) 203 364 [some (.ref l1), some (.ref l2), some (.ref l3), some (.ref l4), some (.int l5), some (.int l6), o7, o8] [.long s9] (n, sl, f) Q := by
  refine w_lstore (ls' := [some (.ref l1), some (.ref l2), some (.ref l3), some (.ref l4), some (.int l5), some (.int l6), some (.long s9), none]) cd_203_364 (Nat.le_of_ble_eq_true rfl) rfl ?_
  refine w_aload_n cd_203_366 rfl ?_
  exact w_invokevirtual cd_203_367 (show mt_m 18 75 = some (137, 0) by decide +kernel) (rest := []) rfl (as := [.ref l3]) rfl h11 (Or.inl h12) ⟨Nat.le_of_ble_eq_true rfl, Nat.le_of_ble_eq_true rfl, Nat.le_of_ble_eq_true rfl⟩ h13
theorem b_203_370 {d : Nat} {Q : (Option Value ⊕ Nat) → mi_H → Prop} (n sl : Nat) (f : Nat → mi_C) {l1 : Nat} {l2 : Nat} {l3 : Nat} {l4 : Nat} {l5 : Int32} {l6 : Int32} {l7 : Int64} {s8 : Int32} (h9 : s8 = l6 → mi_W d 203 377 [some (.ref l1), some (.ref l2), some (.ref l3), some (.ref l4), some (.int l5), some (.int l6), some (.long l7), none] [] (n, sl, f) Q) (h10 : ¬ (s8 = l6) → mi_W d 203 375 [some (.ref l1), some (.ref l2), some (.ref l3), some (.ref l4), some (.int l5), some (.int l6), some (.long l7), none] [] (n, sl, f) Q) : mi_W d 203 370 [some (.ref l1), some (.ref l2), some (.ref l3), some (.ref l4), some (.int l5), some (.int l6), some (.long l7), none] [.int s8] (n, sl, f) Q := by
  refine w_iload cd_203_370 rfl ?_
  exact w_if_icmpeq cd_203_372 (by decide) h9 h10
theorem b_203_375 {d : Nat} {Q : (Option Value ⊕ Nat) → mi_H → Prop} (n sl : Nat) (f : Nat → mi_C) {l1 : Nat} {l2 : Nat} {l3 : Nat} {l4 : Nat} {l5 : Int32} {l6 : Int32} {l7 : Int64} (h8 : Q (.inl (some (.int 0))) (n, sl, f)) : mi_W d 203 375 [some (.ref l1), some (.ref l2), some (.ref l3), some (.ref l4), some (.int l5), some (.int l6), some (.long l7), none] [] (n, sl, f) Q := by
  refine w_iconst (v := 0) cd_203_375 (by decide) ?_
  exact w_ireturn_z cd_203_376 (by decide +kernel) (by decide) h8
theorem b_203_377 {d : Nat} {Q : (Option Value ⊕ Nat) → mi_H → Prop} (n sl : Nat) (f : Nat → mi_C) {l1 : Nat} {l2 : Nat} {l3 : Nat} {l4 : Nat} {l5 : Int32} {l6 : Int32} {l7 : Int64} (h8 : ¬ l6 = (0 : Int32) → mi_W d 203 393 [some (.ref l1), some (.ref l2), some (.ref l3), some (.ref l4), some (.int l5), some (.int l6), some (.long l7), none] [] (n, sl, f) Q) (h9 : ¬ (¬ l6 = (0 : Int32)) → mi_W d 203 382 [some (.ref l1), some (.ref l2), some (.ref l3), some (.ref l4), some (.int l5), some (.int l6), some (.long l7), none] [] (n, sl, f) Q) : mi_W d 203 377 [some (.ref l1), some (.ref l2), some (.ref l3), some (.ref l4), some (.int l5), some (.int l6), some (.long l7), none] [] (n, sl, f) Q := by
  refine w_iload cd_203_377 rfl ?_
  exact w_ifne cd_203_379 (by decide) h8 h9
theorem b_203_382 {d : Nat} {Q : (Option Value ⊕ Nat) → mi_H → Prop} (n sl : Nat) (f : Nat → mi_C) {l1 : Nat} {l2 : Nat} {l3 : Nat} {l4 : Nat} {l5 : Int32} {l6 : Int32} {l7 : Int64} (m8 i8 : Nat) (g8 : Nat → Int64) (h9 : f l4 = .inl (3, m8, .inr (.inl g8))) (h10 : l4 < n) (h11 : mi_ix 0 m8 i8) (h12 : (lg_cmp (g8 i8) l7) = (0 : Int32) → mi_W d 203 393 [some (.ref l1), some (.ref l2), some (.ref l3), some (.ref l4), some (.int l5), some (.int l6), some (.long l7), none] [] (n, sl, f) Q) (h13 : ¬ ((lg_cmp (g8 i8) l7) = (0 : Int32)) → mi_W d 203 391 [some (.ref l1), some (.ref l2), some (.ref l3), some (.ref l4), some (.int l5), some (.int l6), some (.long l7), none] [] (n, sl, f) Q) : mi_W d 203 382 [some (.ref l1), some (.ref l2), some (.ref l3), some (.ref l4), some (.int l5), some (.int l6), some (.long l7), none] [] (n, sl, f) Q := by
  refine w_aload_n cd_203_382 rfl ?_
  refine w_iconst (v := 0) cd_203_383 (by decide) ?_
  refine w_laload cd_203_384 h9 h10 h11 ?_
  refine w_lload cd_203_385 rfl ?_
  refine w_lcmp cd_203_387 ?_
  exact w_ifeq cd_203_388 (by decide) h12 h13
theorem b_203_391 {d : Nat} {Q : (Option Value ⊕ Nat) → mi_H → Prop} (n sl : Nat) (f : Nat → mi_C) {l1 : Nat} {l2 : Nat} {l3 : Nat} {l4 : Nat} {l5 : Int32} {l6 : Int32} {l7 : Int64} (h8 : Q (.inl (some (.int 0))) (n, sl, f)) : mi_W d 203 391 [some (.ref l1), some (.ref l2), some (.ref l3), some (.ref l4), some (.int l5), some (.int l6), some (.long l7), none] [] (n, sl, f) Q := by
  refine w_iconst (v := 0) cd_203_391 (by decide) ?_
  exact w_ireturn_z cd_203_392 (by decide +kernel) (by decide) h8
theorem b_203_393 {d : Nat} {Q : (Option Value ⊕ Nat) → mi_H → Prop} (n sl : Nat) (f : Nat → mi_C) {l1 : Nat} {l2 : Nat} {l3 : Nat} {l4 : Nat} {l5 : Int32} {l6 : Int32} {l7 : Int64} (h8 : mi_W d 203 1165 [some (.ref l1), some (.ref l2), some (.ref l3), some (.ref l4), some (.int l5), some (.int l6), some (.long l7), none] [] (n, sl, f) Q) : mi_W d 203 393 [some (.ref l1), some (.ref l2), some (.ref l3), some (.ref l4), some (.int l5), some (.int l6), some (.long l7), none] [] (n, sl, f) Q := by
  exact w_goto cd_203_393 (by decide) h8
theorem b_203_396 {d : Nat} {Q : (Option Value ⊕ Nat) → mi_H → Prop} (n sl : Nat) (f : Nat → mi_C) {l1 : Nat} {l2 : Nat} {l3 : Nat} {l4 : Nat} {l5 : Int32} {o6 : Option Value} {o7 : Option Value} {o8 : Option Value} (m9 i9 : Nat) (g9 : Nat → Int32) (m13 i13 : Nat) (g13 : Nat → Int32) (m17 i17 : Nat) (g17 : Nat → Int32) (m21 i21 : Nat) (g21 : Nat → Int32) (m25 i25 : Nat) (g25 : Nat → Int32) (h10 : f l1 = .inl (0, m9, .inl g9)) (h11 : l1 < n ∨ l1 = mi_SC) (h12 : mi_ix (l5 + 1) m9 i9) (h14 : f l1 = .inl (0, m13, .inl g13)) (h15 : l1 < n ∨ l1 = mi_SC) (h16 : mi_ix (l5 + 2) m13 i13) (h18 : f l1 = .inl (0, m17, .inl g17)) (h19 : l1 < n ∨ l1 = mi_SC) (h20 : mi_ix (l5 + 3) m17 i17) (h22 : f l1 = .inl (0, m21, .inl g21)) (h23 : l1 < n ∨ l1 = mi_SC) (h24 : mi_ix (l5 + 4) m21 i21) (h26 : f l1 = .inl (0, m25, .inl g25)) (h27 : l1 < n ∨ l1 = mi_SC) (h28 : mi_ix (l5 + 5) m25 i25) (h29 : mi_W d 60 0 (mi_en 8 [.ref l2, .int (g9 i9), .int (g13 i13), .int (g17 i17), .long (((((g21 i21) : Int32).toInt64) <<< ((32 : Int32).toInt64 &&& 63)) ||| ((((g25 i25) : Int32).toInt64) &&& 4294967295)), .ref l4]) [] (n, sl, f) (mi_Kc d 203 438 [some (.ref l1), some (.ref l2), some (.ref l3), some (.ref l4), some (.int l5), o6, o7, o8] [] Q)) : mi_W (d + 1) 203 396 [some (.ref l1), some (.ref l2), some (.ref l3), some (.ref l4), some (.int l5), o6, o7, o8] [] (n, sl, f) Q := by
  refine w_aload_n cd_203_396 rfl ?_
  refine w_aload_n cd_203_397 rfl ?_
  refine w_iload cd_203_398 rfl ?_
  refine w_iconst (v := 1) cd_203_400 (by decide) ?_
  refine w_iadd cd_203_401 ?_
  refine w_iaload cd_203_402 h10 h11 h12 ?_
  refine w_aload_n cd_203_403 rfl ?_
  refine w_iload cd_203_404 rfl ?_
  refine w_iconst (v := 2) cd_203_406 (by decide) ?_
  refine w_iadd cd_203_407 ?_
  refine w_iaload cd_203_408 h14 h15 h16 ?_
  refine w_aload_n cd_203_409 rfl ?_
  refine w_iload cd_203_410 rfl ?_
  refine w_iconst (v := 3) cd_203_412 (by decide) ?_
  refine w_iadd cd_203_413 ?_
  refine w_iaload cd_203_414 h18 h19 h20 ?_
  refine w_aload_n cd_203_415 rfl ?_
  refine w_iload cd_203_416 rfl ?_
  refine w_iconst (v := 4) cd_203_418 (by decide) ?_
  refine w_iadd cd_203_419 ?_
  refine w_iaload cd_203_420 h22 h23 h24 ?_
  refine w_i2l cd_203_421 ?_
  refine w_bipush (v := 32) cd_203_422 (by decide) ?_
  refine w_lshl cd_203_424 ?_
  refine w_aload_n cd_203_425 rfl ?_
  refine w_iload cd_203_426 rfl ?_
  refine w_iconst (v := 5) cd_203_428 (by decide) ?_
  refine w_iadd cd_203_429 ?_
  refine w_iaload cd_203_430 h26 h27 h28 ?_
  refine w_i2l cd_203_431 ?_
  refine w_ldc2_w (lv := 4294967295) cd_203_432 (by decide +kernel) ?_
  refine w_land cd_203_435 ?_
  refine w_lor cd_203_436 ?_
  refine w_aload_n cd_203_437 rfl ?_
  exact w_invokestatic cd_203_438 (show mt_m 18 92 = some (60, 4) by decide +kernel) (by decide) (rest := []) rfl (as := [.ref l2, .int (g9 i9), .int (g13 i13), .int (g17 i17), .long (((((g21 i21) : Int32).toInt64) <<< ((32 : Int32).toInt64 &&& 63)) ||| ((((g25 i25) : Int32).toInt64) &&& 4294967295)), .ref l4]) rfl ⟨Nat.le_of_ble_eq_true rfl, Nat.le_of_ble_eq_true rfl, Nat.le_of_ble_eq_true rfl⟩ h29
theorem b_203_441 {d : Nat} {Q : (Option Value ⊕ Nat) → mi_H → Prop} (n sl : Nat) (f : Nat → mi_C) {l1 : Nat} {l2 : Nat} {l3 : Nat} {l4 : Nat} {l5 : Int32} {o6 : Option Value} {o7 : Option Value} {o8 : Option Value} {s9 : Int32} (m10 i10 : Nat) (g10 : Nat → Int32) (m14 i14 : Nat) (g14 : Nat → Int32) (m18 i18 : Nat) (g18 : Nat → Int32) (m22 i22 : Nat) (g22 : Nat → Int32) (m26 i26 : Nat) (g26 : Nat → Int32) {fs30 : List Value} (h11 : f l1 = .inl (0, m10, .inl g10)) (h12 : l1 < n ∨ l1 = mi_SC) (h13 : mi_ix (l5 + 1) m10 i10) (h15 : f l1 = .inl (0, m14, .inl g14)) (h16 : l1 < n ∨ l1 = mi_SC) (h17 : mi_ix (l5 + 2) m14 i14) (h19 : f l1 = .inl (0, m18, .inl g18)) (h20 : l1 < n ∨ l1 = mi_SC) (h21 : mi_ix (l5 + 3) m18 i18) (h23 : f l1 = .inl (0, m22, .inl g22)) (h24 : l1 < n ∨ l1 = mi_SC) (h25 : mi_ix (l5 + 4) m22 i22) (h27 : f l1 = .inl (0, m26, .inl g26)) (h28 : l1 < n ∨ l1 = mi_SC) (h29 : mi_ix (l5 + 5) m26 i26) (h31 : f l3 = .inr (12, fs30)) (h32 : l3 < n) (h33 : mi_W d 186 0 (mi_en 6 [.ref l3, .int (g10 i10), .int (g14 i14), .int (g18 i18), .long (((((g22 i22) : Int32).toInt64) <<< ((32 : Int32).toInt64 &&& 63)) ||| ((((g26 i26) : Int32).toInt64) &&& 4294967295))]) [] (n, sl, f) (mi_Kc d 203 484 [some (.ref l1), some (.ref l2), some (.ref l3), some (.ref l4), some (.int l5), some (.int s9), o7, o8] [] Q)) : mi_W (d + 1) 203 441 [some (.ref l1), some (.ref l2), some (.ref l3), some (.ref l4), some (.int l5), o6, o7, o8] [.int s9] (n, sl, f) Q := by
  refine w_istore (ls' := [some (.ref l1), some (.ref l2), some (.ref l3), some (.ref l4), some (.int l5), some (.int s9), o7, o8]) cd_203_441 (Nat.le_of_ble_eq_true rfl) rfl ?_
  refine w_aload_n cd_203_443 rfl ?_
  refine w_aload_n cd_203_444 rfl ?_
  refine w_iload cd_203_445 rfl ?_
  refine w_iconst (v := 1) cd_203_447 (by decide) ?_
  refine w_iadd cd_203_448 ?_
  refine w_iaload cd_203_449 h11 h12 h13 ?_
  refine w_aload_n cd_203_450 rfl ?_
  refine w_iload cd_203_451 rfl ?_
  refine w_iconst (v := 2) cd_203_453 (by decide) ?_
  refine w_iadd cd_203_454 ?_
  refine w_iaload cd_203_455 h15 h16 h17 ?_
  refine w_aload_n cd_203_456 rfl ?_
  refine w_iload cd_203_457 rfl ?_
  refine w_iconst (v := 3) cd_203_459 (by decide) ?_
  refine w_iadd cd_203_460 ?_
  refine w_iaload cd_203_461 h19 h20 h21 ?_
  refine w_aload_n cd_203_462 rfl ?_
  refine w_iload cd_203_463 rfl ?_
  refine w_iconst (v := 4) cd_203_465 (by decide) ?_
  refine w_iadd cd_203_466 ?_
  refine w_iaload cd_203_467 h23 h24 h25 ?_
  refine w_i2l cd_203_468 ?_
  refine w_bipush (v := 32) cd_203_469 (by decide) ?_
  refine w_lshl cd_203_471 ?_
  refine w_aload_n cd_203_472 rfl ?_
  refine w_iload cd_203_473 rfl ?_
  refine w_iconst (v := 5) cd_203_475 (by decide) ?_
  refine w_iadd cd_203_476 ?_
  refine w_iaload cd_203_477 h27 h28 h29 ?_
  refine w_i2l cd_203_478 ?_
  refine w_ldc2_w (lv := 4294967295) cd_203_479 (by decide +kernel) ?_
  refine w_land cd_203_482 ?_
  refine w_lor cd_203_483 ?_
  exact w_invokevirtual cd_203_484 (show mt_m 18 95 = some (186, 0) by decide +kernel) (rest := []) rfl (as := [.ref l3, .int (g10 i10), .int (g14 i14), .int (g18 i18), .long (((((g22 i22) : Int32).toInt64) <<< ((32 : Int32).toInt64 &&& 63)) ||| ((((g26 i26) : Int32).toInt64) &&& 4294967295))]) rfl h31 (Or.inl h32) ⟨Nat.le_of_ble_eq_true rfl, Nat.le_of_ble_eq_true rfl, Nat.le_of_ble_eq_true rfl⟩ h33
theorem b_203_487 {d : Nat} {Q : (Option Value ⊕ Nat) → mi_H → Prop} (n sl : Nat) (f : Nat → mi_C) {l1 : Nat} {l2 : Nat} {l3 : Nat} {l4 : Nat} {l5 : Int32} {l6 : Int32} {o7 : Option Value} {o8 : Option Value} {s9 : Int32} {fs10 : List Value} (h11 : f l3 = .inr (12, fs10)) (h12 : l3 < n) (h13 : mi_W d 137 0 (mi_en 1 [.ref l3]) [] (n, sl, f) (mi_Kc d 203 490 [some (.ref l1), some (.ref l2), some (.ref l3), some (.ref l4), some (.int l5), some (.int l6), some (.int s9), o8] [] Q)) : mi_W (d + 1) 203 487 [some (.ref l1), some (.ref l2), some (.ref l3), some (.ref l4), some (.int l5), some (.int l6), o7, o8] [.int s9] (n, sl, f) Q := by
  refine w_istore (ls' := [some (.ref l1), some (.ref l2), some (.ref l3), some (.ref l4), some (.int l5), some (.int l6), some (.int s9), o8]) cd_203_487 (Nat.le_of_ble_eq_true rfl) rfl ?_
  refine w_aload_n cd_203_489 rfl ?_
  exact w_invokevirtual cd_203_490 (show mt_m 18 75 = some (137, 0) by decide +kernel) (rest := []) rfl (as := [.ref l3]) rfl h11 (Or.inl h12) ⟨Nat.le_of_ble_eq_true rfl, Nat.le_of_ble_eq_true rfl, Nat.le_of_ble_eq_true rfl⟩ h13
theorem b_203_493 {d : Nat} {Q : (Option Value ⊕ Nat) → mi_H → Prop} (n sl : Nat) (f : Nat → mi_C) {l1 : Nat} {l2 : Nat} {l3 : Nat} {l4 : Nat} {l5 : Int32} {l6 : Int32} {l7 : Int32} {o8 : Option Value} {s9 : Int32} (h10 : s9 = l6 → mi_W d 203 500 [some (.ref l1), some (.ref l2), some (.ref l3), some (.ref l4), some (.int l5), some (.int l6), some (.int l7), o8] [] (n, sl, f) Q) (h11 : ¬ (s9 = l6) → mi_W d 203 498 [some (.ref l1), some (.ref l2), some (.ref l3), some (.ref l4), some (.int l5), some (.int l6), some (.int l7), o8] [] (n, sl, f) Q) : mi_W d 203 493 [some (.ref l1), some (.ref l2), some (.ref l3), some (.ref l4), some (.int l5), some (.int l6), some (.int l7), o8] [.int s9] (n, sl, f) Q := by
  refine w_iload cd_203_493 rfl ?_
  exact w_if_icmpeq cd_203_495 (by decide) h10 h11
theorem b_203_498 {d : Nat} {Q : (Option Value ⊕ Nat) → mi_H → Prop} (n sl : Nat) (f : Nat → mi_C) {l1 : Nat} {l2 : Nat} {l3 : Nat} {l4 : Nat} {l5 : Int32} {l6 : Int32} {l7 : Int32} {o8 : Option Value} (h9 : Q (.inl (some (.int 0))) (n, sl, f)) : mi_W d 203 498 [some (.ref l1), some (.ref l2), some (.ref l3), some (.ref l4), some (.int l5), some (.int l6), some (.int l7), o8] [] (n, sl, f) Q := by
  refine w_iconst (v := 0) cd_203_498 (by decide) ?_
  exact w_ireturn_z cd_203_499 (by decide +kernel) (by decide) h9
theorem b_203_500 {d : Nat} {Q : (Option Value ⊕ Nat) → mi_H → Prop} (n sl : Nat) (f : Nat → mi_C) {l1 : Nat} {l2 : Nat} {l3 : Nat} {l4 : Nat} {l5 : Int32} {l6 : Int32} {l7 : Int32} {o8 : Option Value} (h9 : ¬ l6 = (0 : Int32) → mi_W d 203 517 [some (.ref l1), some (.ref l2), some (.ref l3), some (.ref l4), some (.int l5), some (.int l6), some (.int l7), o8] [] (n, sl, f) Q) (h10 : ¬ (¬ l6 = (0 : Int32)) → mi_W d 203 505 [some (.ref l1), some (.ref l2), some (.ref l3), some (.ref l4), some (.int l5), some (.int l6), some (.int l7), o8] [] (n, sl, f) Q) : mi_W d 203 500 [some (.ref l1), some (.ref l2), some (.ref l3), some (.ref l4), some (.int l5), some (.int l6), some (.int l7), o8] [] (n, sl, f) Q := by
  refine w_iload cd_203_500 rfl ?_
  exact w_ifne cd_203_502 (by decide) h9 h10
theorem b_203_505 {d : Nat} {Q : (Option Value ⊕ Nat) → mi_H → Prop} (n sl : Nat) (f : Nat → mi_C) {l1 : Nat} {l2 : Nat} {l3 : Nat} {l4 : Nat} {l5 : Int32} {l6 : Int32} {l7 : Int32} {o8 : Option Value} (m9 i9 : Nat) (g9 : Nat → Int64) (h10 : f l4 = .inl (3, m9, .inr (.inl g9))) (h11 : l4 < n) (h12 : mi_ix 0 m9 i9) (h13 : (lg_cmp (g9 i9) ((l7 : Int32).toInt64)) = (0 : Int32) → mi_W d 203 517 [some (.ref l1), some (.ref l2), some (.ref l3), some (.ref l4), some (.int l5), some (.int l6), some (.int l7), o8] [] (n, sl, f) Q) (h14 : ¬ ((lg_cmp (g9 i9) ((l7 : Int32).toInt64)) = (0 : Int32)) → mi_W d 203 515 [some (.ref l1), some (.ref l2), some (.ref l3), some (.ref l4), some (.int l5), some (.int l6), some (.int l7), o8] [] (n, sl, f) Q) : mi_W d 203 505 [some (.ref l1), some (.ref l2), some (.ref l3), some (.ref l4), some (.int l5), some (.int l6), some (.int l7), o8] [] (n, sl, f) Q := by
  refine w_aload_n cd_203_505 rfl ?_
  refine w_iconst (v := 0) cd_203_506 (by decide) ?_
  refine w_laload cd_203_507 h10 h11 h12 ?_
  refine w_iload cd_203_508 rfl ?_
  refine w_i2l cd_203_510 ?_
  refine w_lcmp cd_203_511 ?_
  exact w_ifeq cd_203_512 (by decide) h13 h14
theorem b_203_515 {d : Nat} {Q : (Option Value ⊕ Nat) → mi_H → Prop} (n sl : Nat) (f : Nat → mi_C) {l1 : Nat} {l2 : Nat} {l3 : Nat} {l4 : Nat} {l5 : Int32} {l6 : Int32} {l7 : Int32} {o8 : Option Value} (h9 : Q (.inl (some (.int 0))) (n, sl, f)) : mi_W d 203 515 [some (.ref l1), some (.ref l2), some (.ref l3), some (.ref l4), some (.int l5), some (.int l6), some (.int l7), o8] [] (n, sl, f) Q := by
  refine w_iconst (v := 0) cd_203_515 (by decide) ?_
  exact w_ireturn_z cd_203_516 (by decide +kernel) (by decide) h9
theorem b_203_517 {d : Nat} {Q : (Option Value ⊕ Nat) → mi_H → Prop} (n sl : Nat) (f : Nat → mi_C) {l1 : Nat} {l2 : Nat} {l3 : Nat} {l4 : Nat} {l5 : Int32} {l6 : Int32} {l7 : Int32} {o8 : Option Value} (h9 : mi_W d 203 1165 [some (.ref l1), some (.ref l2), some (.ref l3), some (.ref l4), some (.int l5), some (.int l6), some (.int l7), o8] [] (n, sl, f) Q) : mi_W d 203 517 [some (.ref l1), some (.ref l2), some (.ref l3), some (.ref l4), some (.int l5), some (.int l6), some (.int l7), o8] [] (n, sl, f) Q := by
  exact w_goto cd_203_517 (by decide) h9
theorem b_203_520 {d : Nat} {Q : (Option Value ⊕ Nat) → mi_H → Prop} (n sl : Nat) (f : Nat → mi_C) {l1 : Nat} {l2 : Nat} {l3 : Nat} {l4 : Nat} {l5 : Int32} {o6 : Option Value} {o7 : Option Value} {o8 : Option Value} (m9 i9 : Nat) (g9 : Nat → Int32) (m13 i13 : Nat) (g13 : Nat → Int32) (m17 i17 : Nat) (g17 : Nat → Int32) (h10 : f l1 = .inl (0, m9, .inl g9)) (h11 : l1 < n ∨ l1 = mi_SC) (h12 : mi_ix (l5 + 1) m9 i9) (h14 : f l1 = .inl (0, m13, .inl g13)) (h15 : l1 < n ∨ l1 = mi_SC) (h16 : mi_ix (l5 + 2) m13 i13) (h18 : f l1 = .inl (0, m17, .inl g17)) (h19 : l1 < n ∨ l1 = mi_SC) (h20 : mi_ix (l5 + 3) m17 i17) (h21 : mi_W d 64 0 (mi_en 6 [.ref l2, .int (g9 i9), .long (((((g13 i13) : Int32).toInt64) <<< ((32 : Int32).toInt64 &&& 63)) ||| ((((g17 i17) : Int32).toInt64) &&& 4294967295)), .ref l4]) [] (n, sl, f) (mi_Kc d 203 550 [some (.ref l1), some (.ref l2), some (.ref l3), some (.ref l4), some (.int l5), o6, o7, o8] [] Q)) : mi_W (d + 1) 203 520 [some (.ref l1), some (.ref l2), some (.ref l3), some (.ref l4), some (.int l5), o6, o7, o8] [] (n, sl, f) Q := by
  refine w_aload_n cd_203_520 rfl ?_
  refine w_aload_n cd_203_521 rfl ?_
  refine w_iload cd_203_522 rfl ?_
  refine w_iconst (v := 1) cd_203_524 (by decide) ?_
  refine w_iadd cd_203_525 ?_
  refine w_iaload cd_203_526 h10 h11 h12 ?_
  refine w_aload_n cd_203_527 rfl ?_
  refine w_iload cd_203_528 rfl ?_
  refine w_iconst (v := 2) cd_203_530 (by decide) ?_
  refine w_iadd cd_203_531 ?_
  refine w_iaload cd_203_532 h14 h15 h16 ?_
  refine w_i2l cd_203_533 ?_
  refine w_bipush (v := 32) cd_203_534 (by decide) ?_
  refine w_lshl cd_203_536 ?_
  refine w_aload_n cd_203_537 rfl ?_
  refine w_iload cd_203_538 rfl ?_
  refine w_iconst (v := 3) cd_203_540 (by decide) ?_
  refine w_iadd cd_203_541 ?_
  refine w_iaload cd_203_542 h18 h19 h20 ?_
  refine w_i2l cd_203_543 ?_
  refine w_ldc2_w (lv := 4294967295) cd_203_544 (by decide +kernel) ?_
  refine w_land cd_203_547 ?_
  refine w_lor cd_203_548 ?_
  refine w_aload_n cd_203_549 rfl ?_
  exact w_invokestatic cd_203_550 (show mt_m 18 96 = some (64, 4) by decide +kernel) (by decide) (rest := []) rfl (as := [.ref l2, .int (g9 i9), .long (((((g13 i13) : Int32).toInt64) <<< ((32 : Int32).toInt64 &&& 63)) ||| ((((g17 i17) : Int32).toInt64) &&& 4294967295)), .ref l4]) rfl ⟨Nat.le_of_ble_eq_true rfl, Nat.le_of_ble_eq_true rfl, Nat.le_of_ble_eq_true rfl⟩ h21
theorem b_203_553 {d : Nat} {Q : (Option Value ⊕ Nat) → mi_H → Prop} (n sl : Nat) (f : Nat → mi_C) {l1 : Nat} {l2 : Nat} {l3 : Nat} {l4 : Nat} {l5 : Int32} {o6 : Option Value} {o7 : Option Value} {o8 : Option Value} {s9 : Int32} (m10 i10 : Nat) (g10 : Nat → Int32) (m14 i14 : Nat) (g14 : Nat → Int32) (m18 i18 : Nat) (g18 : Nat → Int32) {fs22 : List Value} (h11 : f l1 = .inl (0, m10, .inl g10)) (h12 : l1 < n ∨ l1 = mi_SC) (h13 : mi_ix (l5 + 1) m10 i10) (h15 : f l1 = .inl (0, m14, .inl g14)) (h16 : l1 < n ∨ l1 = mi_SC) (h17 : mi_ix (l5 + 2) m14 i14) (h19 : f l1 = .inl (0, m18, .inl g18)) (h20 : l1 < n ∨ l1 = mi_SC) (h21 : mi_ix (l5 + 3) m18 i18) (h23 : f l3 = .inr (12, fs22)) (h24 : l3 < n) (h25 : mi_W d 188 0 (mi_en 4 [.ref l3, .int (g10 i10), .long (((((g14 i14) : Int32).toInt64) <<< ((32 : Int32).toInt64 &&& 63)) ||| ((((g18 i18) : Int32).toInt64) &&& 4294967295))]) [] (n, sl, f) (mi_Kc d 203 584 [some (.ref l1), some (.ref l2), some (.ref l3), some (.ref l4), some (.int l5), some (.int s9), o7, o8] [] Q)) : mi_W (d + 1) 203 553 [some (.ref l1), some (.ref l2), some (.ref l3), some (.ref l4), some (.int l5), o6, o7, o8] [.int s9] (n, sl, f) Q := by
  refine w_istore (ls' := [some (.ref l1), some (.ref l2), some (.ref l3), some (.ref l4), some (.int l5), some (.int s9), o7, o8]) cd_203_553 (Nat.le_of_ble_eq_true rfl) rfl ?_
  refine w_aload_n cd_203_555 rfl ?_
  refine w_aload_n cd_203_556 rfl ?_
  refine w_iload cd_203_557 rfl ?_
  refine w_iconst (v := 1) cd_203_559 (by decide) ?_
  refine w_iadd cd_203_560 ?_
  refine w_iaload cd_203_561 h11 h12 h13 ?_
  refine w_aload_n cd_203_562 rfl ?_
  refine w_iload cd_203_563 rfl ?_
  refine w_iconst (v := 2) cd_203_565 (by decide) ?_
  refine w_iadd cd_203_566 ?_
  refine w_iaload cd_203_567 h15 h16 h17 ?_
  refine w_i2l cd_203_568 ?_
  refine w_bipush (v := 32) cd_203_569 (by decide) ?_
  refine w_lshl cd_203_571 ?_
  refine w_aload_n cd_203_572 rfl ?_
  refine w_iload cd_203_573 rfl ?_
  refine w_iconst (v := 3) cd_203_575 (by decide) ?_
  refine w_iadd cd_203_576 ?_
  refine w_iaload cd_203_577 h19 h20 h21 ?_
  refine w_i2l cd_203_578 ?_
  refine w_ldc2_w (lv := 4294967295) cd_203_579 (by decide +kernel) ?_
  refine w_land cd_203_582 ?_
  refine w_lor cd_203_583 ?_
  exact w_invokevirtual cd_203_584 (show mt_m 18 99 = some (188, 0) by decide +kernel) (rest := []) rfl (as := [.ref l3, .int (g10 i10), .long (((((g14 i14) : Int32).toInt64) <<< ((32 : Int32).toInt64 &&& 63)) ||| ((((g18 i18) : Int32).toInt64) &&& 4294967295))]) rfl h23 (Or.inl h24) ⟨Nat.le_of_ble_eq_true rfl, Nat.le_of_ble_eq_true rfl, Nat.le_of_ble_eq_true rfl⟩ h25
theorem b_203_587 {d : Nat} {Q : (Option Value ⊕ Nat) → mi_H → Prop} (n sl : Nat) (f : Nat → mi_C) {l1 : Nat} {l2 : Nat} {l3 : Nat} {l4 : Nat} {l5 : Int32} {l6 : Int32} {o7 : Option Value} {o8 : Option Value} {s9 : Int32} {fs10 : List Value} (h11 : f l3 = .inr (12, fs10)) (h12 : l3 < n) (h13 : mi_W d 137 0 (mi_en 1 [.ref l3]) [] (n, sl, f) (mi_Kc d 203 590 [some (.ref l1), some (.ref l2), some (.ref l3), some (.ref l4), some (.int l5), some (.int l6), some (.int s9), o8] [] Q)) : mi_W (d + 1) 203 587 [some (.ref l1), some (.ref l2), some (.ref l3), some (.ref l4), some (.int l5), some (.int l6), o7, o8] [.int s9] (n, sl, f) Q := by
  refine w_istore (ls' := [some (.ref l1), some (.ref l2), some (.ref l3), some (.ref l4), some (.int l5), some (.int l6), some (.int s9), o8]) cd_203_587 (Nat.le_of_ble_eq_true rfl) rfl ?_
  refine w_aload_n cd_203_589 rfl ?_
  exact w_invokevirtual cd_203_590 (show mt_m 18 75 = some (137, 0) by decide +kernel) (rest := []) rfl (as := [.ref l3]) rfl h11 (Or.inl h12) ⟨Nat.le_of_ble_eq_true rfl, Nat.le_of_ble_eq_true rfl, Nat.le_of_ble_eq_true rfl⟩ h13
theorem b_203_593 {d : Nat} {Q : (Option Value ⊕ Nat) → mi_H → Prop} (n sl : Nat) (f : Nat → mi_C) {l1 : Nat} {l2 : Nat} {l3 : Nat} {l4 : Nat} {l5 : Int32} {l6 : Int32} {l7 : Int32} {o8 : Option Value} {s9 : Int32} (h10 : s9 = l6 → mi_W d 203 600 [some (.ref l1), some (.ref l2), some (.ref l3), some (.ref l4), some (.int l5), some (.int l6), some (.int l7), o8] [] (n, sl, f) Q) (h11 : ¬ (s9 = l6) → mi_W d 203 598 [some (.ref l1), some (.ref l2), some (.ref l3), some (.ref l4), some (.int l5), some (.int l6), some (.int l7), o8] [] (n, sl, f) Q) : mi_W d 203 593 [some (.ref l1), some (.ref l2), some (.ref l3), some (.ref l4), some (.int l5), some (.int l6), some (.int l7), o8] [.int s9] (n, sl, f) Q := by
  refine w_iload cd_203_593 rfl ?_
  exact w_if_icmpeq cd_203_595 (by decide) h10 h11
theorem b_203_598 {d : Nat} {Q : (Option Value ⊕ Nat) → mi_H → Prop} (n sl : Nat) (f : Nat → mi_C) {l1 : Nat} {l2 : Nat} {l3 : Nat} {l4 : Nat} {l5 : Int32} {l6 : Int32} {l7 : Int32} {o8 : Option Value} (h9 : Q (.inl (some (.int 0))) (n, sl, f)) : mi_W d 203 598 [some (.ref l1), some (.ref l2), some (.ref l3), some (.ref l4), some (.int l5), some (.int l6), some (.int l7), o8] [] (n, sl, f) Q := by
  refine w_iconst (v := 0) cd_203_598 (by decide) ?_
  exact w_ireturn_z cd_203_599 (by decide +kernel) (by decide) h9
theorem b_203_600 {d : Nat} {Q : (Option Value ⊕ Nat) → mi_H → Prop} (n sl : Nat) (f : Nat → mi_C) {l1 : Nat} {l2 : Nat} {l3 : Nat} {l4 : Nat} {l5 : Int32} {l6 : Int32} {l7 : Int32} {o8 : Option Value} (h9 : ¬ l6 = (0 : Int32) → mi_W d 203 617 [some (.ref l1), some (.ref l2), some (.ref l3), some (.ref l4), some (.int l5), some (.int l6), some (.int l7), o8] [] (n, sl, f) Q) (h10 : ¬ (¬ l6 = (0 : Int32)) → mi_W d 203 605 [some (.ref l1), some (.ref l2), some (.ref l3), some (.ref l4), some (.int l5), some (.int l6), some (.int l7), o8] [] (n, sl, f) Q) : mi_W d 203 600 [some (.ref l1), some (.ref l2), some (.ref l3), some (.ref l4), some (.int l5), some (.int l6), some (.int l7), o8] [] (n, sl, f) Q := by
  refine w_iload cd_203_600 rfl ?_
  exact w_ifne cd_203_602 (by decide) h9 h10
theorem b_203_605 {d : Nat} {Q : (Option Value ⊕ Nat) → mi_H → Prop} (n sl : Nat) (f : Nat → mi_C) {l1 : Nat} {l2 : Nat} {l3 : Nat} {l4 : Nat} {l5 : Int32} {l6 : Int32} {l7 : Int32} {o8 : Option Value} (m9 i9 : Nat) (g9 : Nat → Int64) (h10 : f l4 = .inl (3, m9, .inr (.inl g9))) (h11 : l4 < n) (h12 : mi_ix 0 m9 i9) (h13 : (lg_cmp (g9 i9) ((l7 : Int32).toInt64)) = (0 : Int32) → mi_W d 203 617 [some (.ref l1), some (.ref l2), some (.ref l3), some (.ref l4), some (.int l5), some (.int l6), some (.int l7), o8] [] (n, sl, f) Q) (h14 : ¬ ((lg_cmp (g9 i9) ((l7 : Int32).toInt64)) = (0 : Int32)) → mi_W d 203 615 [some (.ref l1), some (.ref l2), some (.ref l3), some (.ref l4), some (.int l5), some (.int l6), some (.int l7), o8] [] (n, sl, f) Q) : mi_W d 203 605 [some (.ref l1), some (.ref l2), some (.ref l3), some (.ref l4), some (.int l5), some (.int l6), some (.int l7), o8] [] (n, sl, f) Q := by
  refine w_aload_n cd_203_605 rfl ?_
  refine w_iconst (v := 0) cd_203_606 (by decide) ?_
  refine w_laload cd_203_607 h10 h11 h12 ?_
  refine w_iload cd_203_608 rfl ?_
  refine w_i2l cd_203_610 ?_
  refine w_lcmp cd_203_611 ?_
  exact w_ifeq cd_203_612 (by decide) h13 h14
theorem b_203_615 {d : Nat} {Q : (Option Value ⊕ Nat) → mi_H → Prop} (n sl : Nat) (f : Nat → mi_C) {l1 : Nat} {l2 : Nat} {l3 : Nat} {l4 : Nat} {l5 : Int32} {l6 : Int32} {l7 : Int32} {o8 : Option Value} (h9 : Q (.inl (some (.int 0))) (n, sl, f)) : mi_W d 203 615 [some (.ref l1), some (.ref l2), some (.ref l3), some (.ref l4), some (.int l5), some (.int l6), some (.int l7), o8] [] (n, sl, f) Q := by
  refine w_iconst (v := 0) cd_203_615 (by decide) ?_
  exact w_ireturn_z cd_203_616 (by decide +kernel) (by decide) h9
theorem b_203_617 {d : Nat} {Q : (Option Value ⊕ Nat) → mi_H → Prop} (n sl : Nat) (f : Nat → mi_C) {l1 : Nat} {l2 : Nat} {l3 : Nat} {l4 : Nat} {l5 : Int32} {l6 : Int32} {l7 : Int32} {o8 : Option Value} (h9 : mi_W d 203 1165 [some (.ref l1), some (.ref l2), some (.ref l3), some (.ref l4), some (.int l5), some (.int l6), some (.int l7), o8] [] (n, sl, f) Q) : mi_W d 203 617 [some (.ref l1), some (.ref l2), some (.ref l3), some (.ref l4), some (.int l5), some (.int l6), some (.int l7), o8] [] (n, sl, f) Q := by
  exact w_goto cd_203_617 (by decide) h9
theorem b_203_620 {d : Nat} {Q : (Option Value ⊕ Nat) → mi_H → Prop} (n sl : Nat) (f : Nat → mi_C) {l1 : Nat} {l2 : Nat} {l3 : Nat} {l4 : Nat} {l5 : Int32} {o6 : Option Value} {o7 : Option Value} {o8 : Option Value} (h9 : mi_W d 66 0 (mi_en 3 [.ref l2, .ref l4]) [] (n, sl, f) (mi_Kc d 203 622 [some (.ref l1), some (.ref l2), some (.ref l3), some (.ref l4), some (.int l5), o6, o7, o8] [] Q)) : mi_W (d + 1) 203 620 [some (.ref l1), some (.ref l2), some (.ref l3), some (.ref l4), some (.int l5), o6, o7, o8] [] (n, sl, f) Q := by
  refine w_aload_n cd_203_620 rfl ?_
  refine w_aload_n cd_203_621 rfl ?_
  exact w_invokestatic cd_203_622 (show mt_m 18 100 = some (66, 4) by decide +kernel) (by decide) (rest := []) rfl (as := [.ref l2, .ref l4]) rfl ⟨Nat.le_of_ble_eq_true rfl, Nat.le_of_ble_eq_true rfl, Nat.le_of_ble_eq_true rfl⟩ h9
theorem b_203_625 {d : Nat} {Q : (Option Value ⊕ Nat) → mi_H → Prop} (n sl : Nat) (f : Nat → mi_C) {l1 : Nat} {l2 : Nat} {l3 : Nat} {l4 : Nat} {l5 : Int32} {o6 : Option Value} {o7 : Option Value} {o8 : Option Value} {s9 : Int32} {fs10 : List Value} (h11 : f l3 = .inr (12, fs10)) (h12 : l3 < n) (h13 : mi_W d 189 0 (mi_en 1 [.ref l3]) [] (n, sl, f) (mi_Kc d 203 628 [some (.ref l1), some (.ref l2), some (.ref l3), some (.ref l4), some (.int l5), some (.int s9), o7, o8] [] Q)) : mi_W (d + 1) 203 625 [some (.ref l1), some (.ref l2), some (.ref l3), some (.ref l4), some (.int l5), o6, o7, o8] [.int s9] (n, sl, f) Q := by
  refine w_istore (ls' := [some (.ref l1), some (.ref l2), some (.ref l3), some (.ref l4), some (.int l5), some (.int s9), o7, o8]) cd_203_625 (Nat.le_of_ble_eq_true rfl) rfl ?_
  refine w_aload_n cd_203_627 rfl ?_
  exact w_invokevirtual cd_203_628 (show mt_m 18 103 = some (189, 0) by decide +kernel) (rest := []) rfl (as := [.ref l3]) rfl h11 (Or.inl h12) ⟨Nat.le_of_ble_eq_true rfl, Nat.le_of_ble_eq_true rfl, Nat.le_of_ble_eq_true rfl⟩ h13
theorem b_203_631 {d : Nat} {Q : (Option Value ⊕ Nat) → mi_H → Prop} (n sl : Nat) (f : Nat → mi_C) {l1 : Nat} {l2 : Nat} {l3 : Nat} {l4 : Nat} {l5 : Int32} {l6 : Int32} {o7 : Option Value} {o8 : Option Value} {s9 : Int32} {fs10 : List Value} (h11 : f l3 = .inr (12, fs10)) (h12 : l3 < n) (h13 : mi_W d 137 0 (mi_en 1 [.ref l3]) [] (n, sl, f) (mi_Kc d 203 634 [some (.ref l1), some (.ref l2), some (.ref l3), some (.ref l4), some (.int l5), some (.int l6), some (.int s9), o8] [] Q)) : mi_W (d + 1) 203 631 [some (.ref l1), some (.ref l2), some (.ref l3), some (.ref l4), some (.int l5), some (.int l6), o7, o8] [.int s9] (n, sl, f) Q := by
  refine w_istore (ls' := [some (.ref l1), some (.ref l2), some (.ref l3), some (.ref l4), some (.int l5), some (.int l6), some (.int s9), o8]) cd_203_631 (Nat.le_of_ble_eq_true rfl) rfl ?_
  refine w_aload_n cd_203_633 rfl ?_
  exact w_invokevirtual cd_203_634 (show mt_m 18 75 = some (137, 0) by decide +kernel) (rest := []) rfl (as := [.ref l3]) rfl h11 (Or.inl h12) ⟨Nat.le_of_ble_eq_true rfl, Nat.le_of_ble_eq_true rfl, Nat.le_of_ble_eq_true rfl⟩ h13
theorem b_203_637 {d : Nat} {Q : (Option Value ⊕ Nat) → mi_H → Prop} (n sl : Nat) (f : Nat → mi_C) {l1 : Nat} {l2 : Nat} {l3 : Nat} {l4 : Nat} {l5 : Int32} {l6 : Int32} {l7 : Int32} {o8 : Option Value} {s9 : Int32} (h10 : s9 = l6 → mi_W d 203 644 [some (.ref l1), some (.ref l2), some (.ref l3), some (.ref l4), some (.int l5), some (.int l6), some (.int l7), o8] [] (n, sl, f) Q) (h11 : ¬ (s9 = l6) → mi_W d 203 642 [some (.ref l1), some (.ref l2), some (.ref l3), some (.ref l4), some (.int l5), some (.int l6), some (.int l7), o8] [] (n, sl, f) Q) : mi_W d 203 637 [some (.ref l1), some (.ref l2), some (.ref l3), some (.ref l4), some (.int l5), some (.int l6), some (.int l7), o8] [.int s9] (n, sl, f) Q := by
  refine w_iload cd_203_637 rfl ?_
  exact w_if_icmpeq cd_203_639 (by decide) h10 h11
theorem b_203_642 {d : Nat} {Q : (Option Value ⊕ Nat) → mi_H → Prop} (n sl : Nat) (f : Nat → mi_C) {l1 : Nat} {l2 : Nat} {l3 : Nat} {l4 : Nat} {l5 : Int32} {l6 : Int32} {l7 : Int32} {o8 : Option Value} (h9 : Q (.inl (some (.int 0))) (n, sl, f)) : mi_W d 203 642 [some (.ref l1), some (.ref l2), some (.ref l3), some (.ref l4), some (.int l5), some (.int l6), some (.int l7), o8] [] (n, sl, f) Q := by
  refine w_iconst (v := 0) cd_203_642 (by decide) ?_
  exact w_ireturn_z cd_203_643 (by decide +kernel) (by decide) h9
theorem b_203_644 {d : Nat} {Q : (Option Value ⊕ Nat) → mi_H → Prop} (n sl : Nat) (f : Nat → mi_C) {l1 : Nat} {l2 : Nat} {l3 : Nat} {l4 : Nat} {l5 : Int32} {l6 : Int32} {l7 : Int32} {o8 : Option Value} (h9 : ¬ l6 = (0 : Int32) → mi_W d 203 661 [some (.ref l1), some (.ref l2), some (.ref l3), some (.ref l4), some (.int l5), some (.int l6), some (.int l7), o8] [] (n, sl, f) Q) (h10 : ¬ (¬ l6 = (0 : Int32)) → mi_W d 203 649 [some (.ref l1), some (.ref l2), some (.ref l3), some (.ref l4), some (.int l5), some (.int l6), some (.int l7), o8] [] (n, sl, f) Q) : mi_W d 203 644 [some (.ref l1), some (.ref l2), some (.ref l3), some (.ref l4), some (.int l5), some (.int l6), some (.int l7), o8] [] (n, sl, f) Q := by
  refine w_iload cd_203_644 rfl ?_
  exact w_ifne cd_203_646 (by decide) h9 h10
theorem b_203_649 {d : Nat} {Q : (Option Value ⊕ Nat) → mi_H → Prop} (n sl : Nat) (f : Nat → mi_C) {l1 : Nat} {l2 : Nat} {l3 : Nat} {l4 : Nat} {l5 : Int32} {l6 : Int32} {l7 : Int32} {o8 : Option Value} (m9 i9 : Nat) (g9 : Nat → Int64) (h10 : f l4 = .inl (3, m9, .inr (.inl g9))) (h11 : l4 < n) (h12 : mi_ix 0 m9 i9) (h13 : (lg_cmp (g9 i9) ((l7 : Int32).toInt64)) = (0 : Int32) → mi_W d 203 661 [some (.ref l1), some (.ref l2), some (.ref l3), some (.ref l4), some (.int l5), some (.int l6), some (.int l7), o8] [] (n, sl, f) Q) (h14 : ¬ ((lg_cmp (g9 i9) ((l7 : Int32).toInt64)) = (0 : Int32)) → mi_W d 203 659 [some (.ref l1), some (.ref l2), some (.ref l3), some (.ref l4), some (.int l5), some (.int l6), some (.int l7), o8] [] (n, sl, f) Q) : mi_W d 203 649 [some (.ref l1), some (.ref l2), some (.ref l3), some (.ref l4), some (.int l5), some (.int l6), some (.int l7), o8] [] (n, sl, f) Q := by
  refine w_aload_n cd_203_649 rfl ?_
  refine w_iconst (v := 0) cd_203_650 (by decide) ?_
  refine w_laload cd_203_651 h10 h11 h12 ?_
  refine w_iload cd_203_652 rfl ?_
  refine w_i2l cd_203_654 ?_
  refine w_lcmp cd_203_655 ?_
  exact w_ifeq cd_203_656 (by decide) h13 h14
theorem b_203_659 {d : Nat} {Q : (Option Value ⊕ Nat) → mi_H → Prop} (n sl : Nat) (f : Nat → mi_C) {l1 : Nat} {l2 : Nat} {l3 : Nat} {l4 : Nat} {l5 : Int32} {l6 : Int32} {l7 : Int32} {o8 : Option Value} (h9 : Q (.inl (some (.int 0))) (n, sl, f)) : mi_W d 203 659 [some (.ref l1), some (.ref l2), some (.ref l3), some (.ref l4), some (.int l5), some (.int l6), some (.int l7), o8] [] (n, sl, f) Q := by
  refine w_iconst (v := 0) cd_203_659 (by decide) ?_
  exact w_ireturn_z cd_203_660 (by decide +kernel) (by decide) h9
theorem b_203_661 {d : Nat} {Q : (Option Value ⊕ Nat) → mi_H → Prop} (n sl : Nat) (f : Nat → mi_C) {l1 : Nat} {l2 : Nat} {l3 : Nat} {l4 : Nat} {l5 : Int32} {l6 : Int32} {l7 : Int32} {o8 : Option Value} (h9 : mi_W d 203 1165 [some (.ref l1), some (.ref l2), some (.ref l3), some (.ref l4), some (.int l5), some (.int l6), some (.int l7), o8] [] (n, sl, f) Q) : mi_W d 203 661 [some (.ref l1), some (.ref l2), some (.ref l3), some (.ref l4), some (.int l5), some (.int l6), some (.int l7), o8] [] (n, sl, f) Q := by
  exact w_goto cd_203_661 (by decide) h9
theorem b_203_664 {d : Nat} {Q : (Option Value ⊕ Nat) → mi_H → Prop} (n sl : Nat) (f : Nat → mi_C) {l1 : Nat} {l2 : Nat} {l3 : Nat} {l4 : Nat} {l5 : Int32} {o6 : Option Value} {o7 : Option Value} {o8 : Option Value} (m9 i9 : Nat) (g9 : Nat → Int32) (m13 i13 : Nat) (g13 : Nat → Int32) (m17 i17 : Nat) (g17 : Nat → Int32) (m21 i21 : Nat) (g21 : Nat → Int32) (h10 : f l1 = .inl (0, m9, .inl g9)) (h11 : l1 < n ∨ l1 = mi_SC) (h12 : mi_ix (l5 + 1) m9 i9) (h14 : f l1 = .inl (0, m13, .inl g13)) (h15 : l1 < n ∨ l1 = mi_SC) (h16 : mi_ix (l5 + 2) m13 i13) (h18 : f l1 = .inl (0, m17, .inl g17)) (h19 : l1 < n ∨ l1 = mi_SC) (h20 : mi_ix (l5 + 3) m17 i17) (h22 : f l1 = .inl (0, m21, .inl g21)) (h23 : l1 < n ∨ l1 = mi_SC) (h24 : mi_ix (l5 + 4) m21 i21) (h25 : mi_W d 68 0 (mi_en 7 [.ref l2, .long (((((g9 i9) : Int32).toInt64) <<< ((32 : Int32).toInt64 &&& 63)) ||| ((((g13 i13) : Int32).toInt64) &&& 4294967295)), .long (((((g17 i17) : Int32).toInt64) <<< ((32 : Int32).toInt64 &&& 63)) ||| ((((g21 i21) : Int32).toInt64) &&& 4294967295)), .ref l4]) [] (n, sl, f) (mi_Kc d 203 710 [some (.ref l1), some (.ref l2), some (.ref l3), some (.ref l4), some (.int l5), o6, o7, o8] [] Q)) : mi_W (d + 1) 203 664 [some (.ref l1), some (.ref l2), some (.ref l3), some (.ref l4), some (.int l5), o6, o7, o8] [] (n, sl, f) Q := by
  refine w_aload_n cd_203_664 rfl ?_
  refine w_aload_n cd_203_665 rfl ?_
  refine w_iload cd_203_666 rfl ?_
  refine w_iconst (v := 1) cd_203_668 (by decide) ?_
  refine w_iadd cd_203_669 ?_
  refine w_iaload cd_203_670 h10 h11 h12 ?_
  refine w_i2l cd_203_671 ?_
  refine w_bipush (v := 32) cd_203_672 (by decide) ?_
  refine w_lshl cd_203_674 ?_
  refine w_aload_n cd_203_675 rfl ?_
  refine w_iload cd_203_676 rfl ?_
  refine w_iconst (v := 2) cd_203_678 (by decide) ?_
  refine w_iadd cd_203_679 ?_
  refine w_iaload cd_203_680 h14 h15 h16 ?_
  refine w_i2l cd_203_681 ?_
  refine w_ldc2_w (lv := 4294967295) cd_203_682 (by decide +kernel) ?_
  refine w_land cd_203_685 ?_
  refine w_lor cd_203_686 ?_
  refine w_aload_n cd_203_687 rfl ?_
  refine w_iload cd_203_688 rfl ?_
  refine w_iconst (v := 3) cd_203_690 (by decide) ?_
  refine w_iadd cd_203_691 ?_
  refine w_iaload cd_203_692 h18 h19 h20 ?_
  refine w_i2l cd_203_693 ?_
  refine w_bipush (v := 32) cd_203_694 (by decide) ?_
  refine w_lshl cd_203_696 ?_
  refine w_aload_n cd_203_697 rfl ?_
  refine w_iload cd_203_698 rfl ?_
  refine w_iconst (v := 4) cd_203_700 (by decide) ?_
  refine w_iadd cd_203_701 ?_
  refine w_iaload cd_203_702 h22 h23 h24 ?_
  refine w_i2l cd_203_703 ?_
  refine w_ldc2_w (lv := 4294967295) cd_203_704 (by decide +kernel) ?_
  refine w_land cd_203_707 ?_
  refine w_lor cd_203_708 ?_
  refine w_aload_n cd_203_709 rfl ?_
  exact w_invokestatic cd_203_710 (show mt_m 18 104 = some (68, 4) by decide +kernel) (by decide) (rest := []) rfl (as := [.ref l2, .long (((((g9 i9) : Int32).toInt64) <<< ((32 : Int32).toInt64 &&& 63)) ||| ((((g13 i13) : Int32).toInt64) &&& 4294967295)), .long (((((g17 i17) : Int32).toInt64) <<< ((32 : Int32).toInt64 &&& 63)) ||| ((((g21 i21) : Int32).toInt64) &&& 4294967295)), .ref l4]) rfl ⟨Nat.le_of_ble_eq_true rfl, Nat.le_of_ble_eq_true rfl, Nat.le_of_ble_eq_true rfl⟩ h25
theorem b_203_713 {d : Nat} {Q : (Option Value ⊕ Nat) → mi_H → Prop} (n sl : Nat) (f : Nat → mi_C) {l1 : Nat} {l2 : Nat} {l3 : Nat} {l4 : Nat} {l5 : Int32} {o6 : Option Value} {o7 : Option Value} {o8 : Option Value} {s9 : Int32} (m10 i10 : Nat) (g10 : Nat → Int32) (m14 i14 : Nat) (g14 : Nat → Int32) (m18 i18 : Nat) (g18 : Nat → Int32) (m22 i22 : Nat) (g22 : Nat → Int32) {fs26 : List Value} (h11 : f l1 = .inl (0, m10, .inl g10)) (h12 : l1 < n ∨ l1 = mi_SC) (h13 : mi_ix (l5 + 1) m10 i10) (h15 : f l1 = .inl (0, m14, .inl g14)) (h16 : l1 < n ∨ l1 = mi_SC) (h17 : mi_ix (l5 + 2) m14 i14) (h19 : f l1 = .inl (0, m18, .inl g18)) (h20 : l1 < n ∨ l1 = mi_SC) (h21 : mi_ix (l5 + 3) m18 i18) (h23 : f l1 = .inl (0, m22, .inl g22)) (h24 : l1 < n ∨ l1 = mi_SC) (h25 : mi_ix (l5 + 4) m22 i22) (h27 : f l3 = .inr (12, fs26)) (h28 : l3 < n) (h29 : mi_W d 171 0 (mi_en 7 [.ref l3, .long (((((g10 i10) : Int32).toInt64) <<< ((32 : Int32).toInt64 &&& 63)) ||| ((((g14 i14) : Int32).toInt64) &&& 4294967295)), .long (((((g18 i18) : Int32).toInt64) <<< ((32 : Int32).toInt64 &&& 63)) ||| ((((g22 i22) : Int32).toInt64) &&& 4294967295))]) [] (n, sl, f) (mi_Kc d 203 760 [some (.ref l1), some (.ref l2), some (.ref l3), some (.ref l4), some (.int l5), some (.int s9), o7, o8] [] Q)) : mi_W (d + 1) 203 713 [some (.ref l1), some (.ref l2), some (.ref l3), some (.ref l4), some (.int l5), o6, o7, o8] [.int s9] (n, sl, f) Q := by
  refine w_istore (ls' := [some (.ref l1), some (.ref l2), some (.ref l3), some (.ref l4), some (.int l5), some (.int s9), o7, o8]) cd_203_713 (Nat.le_of_ble_eq_true rfl) rfl ?_
  refine w_aload_n cd_203_715 rfl ?_
  refine w_aload_n cd_203_716 rfl ?_
  refine w_iload cd_203_717 rfl ?_
  refine w_iconst (v := 1) cd_203_719 (by decide) ?_
  refine w_iadd cd_203_720 ?_
  refine w_iaload cd_203_721 h11 h12 h13 ?_
  refine w_i2l cd_203_722 ?_
  refine w_bipush (v := 32) cd_203_723 (by decide) ?_
  refine w_lshl cd_203_725 ?_
  refine w_aload_n cd_203_726 rfl ?_
  refine w_iload cd_203_727 rfl ?_
  refine w_iconst (v := 2) cd_203_729 (by decide) ?_
  refine w_iadd cd_203_730 ?_
  refine w_iaload cd_203_731 h15 h16 h17 ?_
  refine w_i2l cd_203_732 ?_
  refine w_ldc2_w (lv := 4294967295) cd_203_733 (by decide +kernel) ?_
  refine w_land cd_203_736 ?_
  refine w_lor cd_203_737 ?_
  refine w_aload_n cd_203_738 rfl ?_
  refine w_iload cd_203_739 rfl ?_
  refine w_iconst (v := 3) cd_203_741 (by decide) ?_
  refine w_iadd cd_203_742 ?_
  refine w_iaload cd_203_743 h19 h20 h21 ?_
  refine w_i2l cd_203_744 ?_
  refine w_bipush (v := 32) cd_203_745 (by decide) ?_
  refine w_lshl cd_203_747 ?_
  refine w_aload_n cd_203_748 rfl ?_
  refine w_iload cd_203_749 rfl ?_
  refine w_iconst (v := 4) cd_203_751 (by decide) ?_
  refine w_iadd cd_203_752 ?_
  refine w_iaload cd_203_753 h23 h24 h25 ?_
  refine w_i2l cd_203_754 ?_
  refine w_ldc2_w (lv := 4294967295) cd_203_755 (by decide +kernel) ?_
  refine w_land cd_203_758 ?_
  refine w_lor cd_203_759 ?_
  exact w_invokevirtual cd_203_760 (show mt_m 18 107 = some (171, 0) by decide +kernel) (rest := []) rfl (as := [.ref l3, .long (((((g10 i10) : Int32).toInt64) <<< ((32 : Int32).toInt64 &&& 63)) ||| ((((g14 i14) : Int32).toInt64) &&& 4294967295)), .long (((((g18 i18) : Int32).toInt64) <<< ((32 : Int32).toInt64 &&& 63)) ||| ((((g22 i22) : Int32).toInt64) &&& 4294967295))]) rfl h27 (Or.inl h28) ⟨Nat.le_of_ble_eq_true rfl, Nat.le_of_ble_eq_true rfl, Nat.le_of_ble_eq_true rfl⟩ h29
theorem b_203_763 {d : Nat} {Q : (Option Value ⊕ Nat) → mi_H → Prop} (n sl : Nat) (f : Nat → mi_C) {l1 : Nat} {l2 : Nat} {l3 : Nat} {l4 : Nat} {l5 : Int32} {l6 : Int32} {o7 : Option Value} {o8 : Option Value} {s9 : Int32} {fs10 : List Value} (h11 : f l3 = .inr (12, fs10)) (h12 : l3 < n) (h13 : mi_W d 137 0 (mi_en 1 [.ref l3]) [] (n, sl, f) (mi_Kc d 203 766 [some (.ref l1), some (.ref l2), some (.ref l3), some (.ref l4), some (.int l5), some (.int l6), some (.int s9), o8] [] Q)) : mi_W (d + 1) 203 763 [some (.ref l1), some (.ref l2), some (.ref l3), some (.ref l4), some (.int l5), some (.int l6), o7, o8] [.int s9] (n, sl, f) Q := by
  refine w_istore (ls' := [some (.ref l1), some (.ref l2), some (.ref l3), some (.ref l4), some (.int l5), some (.int l6), some (.int s9), o8]) cd_203_763 (Nat.le_of_ble_eq_true rfl) rfl ?_
  refine w_aload_n cd_203_765 rfl ?_
  exact w_invokevirtual cd_203_766 (show mt_m 18 75 = some (137, 0) by decide +kernel) (rest := []) rfl (as := [.ref l3]) rfl h11 (Or.inl h12) ⟨Nat.le_of_ble_eq_true rfl, Nat.le_of_ble_eq_true rfl, Nat.le_of_ble_eq_true rfl⟩ h13
theorem b_203_769 {d : Nat} {Q : (Option Value ⊕ Nat) → mi_H → Prop} (n sl : Nat) (f : Nat → mi_C) {l1 : Nat} {l2 : Nat} {l3 : Nat} {l4 : Nat} {l5 : Int32} {l6 : Int32} {l7 : Int32} {o8 : Option Value} {s9 : Int32} (h10 : s9 = l6 → mi_W d 203 776 [some (.ref l1), some (.ref l2), some (.ref l3), some (.ref l4), some (.int l5), some (.int l6), some (.int l7), o8] [] (n, sl, f) Q) (h11 : ¬ (s9 = l6) → mi_W d 203 774 [some (.ref l1), some (.ref l2), some (.ref l3), some (.ref l4), some (.int l5), some (.int l6), some (.int l7), o8] [] (n, sl, f) Q) : mi_W d 203 769 [some (.ref l1), some (.ref l2), some (.ref l3), some (.ref l4), some (.int l5), some (.int l6), some (.int l7), o8] [.int s9] (n, sl, f) Q := by
  refine w_iload cd_203_769 rfl ?_
  exact w_if_icmpeq cd_203_771 (by decide) h10 h11
theorem b_203_774 {d : Nat} {Q : (Option Value ⊕ Nat) → mi_H → Prop} (n sl : Nat) (f : Nat → mi_C) {l1 : Nat} {l2 : Nat} {l3 : Nat} {l4 : Nat} {l5 : Int32} {l6 : Int32} {l7 : Int32} {o8 : Option Value} (h9 : Q (.inl (some (.int 0))) (n, sl, f)) : mi_W d 203 774 [some (.ref l1), some (.ref l2), some (.ref l3), some (.ref l4), some (.int l5), some (.int l6), some (.int l7), o8] [] (n, sl, f) Q := by
  refine w_iconst (v := 0) cd_203_774 (by decide) ?_
  exact w_ireturn_z cd_203_775 (by decide +kernel) (by decide) h9
theorem b_203_776 {d : Nat} {Q : (Option Value ⊕ Nat) → mi_H → Prop} (n sl : Nat) (f : Nat → mi_C) {l1 : Nat} {l2 : Nat} {l3 : Nat} {l4 : Nat} {l5 : Int32} {l6 : Int32} {l7 : Int32} {o8 : Option Value} (h9 : ¬ l6 = (0 : Int32) → mi_W d 203 793 [some (.ref l1), some (.ref l2), some (.ref l3), some (.ref l4), some (.int l5), some (.int l6), some (.int l7), o8] [] (n, sl, f) Q) (h10 : ¬ (¬ l6 = (0 : Int32)) → mi_W d 203 781 [some (.ref l1), some (.ref l2), some (.ref l3), some (.ref l4), some (.int l5), some (.int l6), some (.int l7), o8] [] (n, sl, f) Q) : mi_W d 203 776 [some (.ref l1), some (.ref l2), some (.ref l3), some (.ref l4), some (.int l5), some (.int l6), some (.int l7), o8] [] (n, sl, f) Q := by
  refine w_iload cd_203_776 rfl ?_
  exact w_ifne cd_203_778 (by decide) h9 h10
theorem b_203_781 {d : Nat} {Q : (Option Value ⊕ Nat) → mi_H → Prop} (n sl : Nat) (f : Nat → mi_C) {l1 : Nat} {l2 : Nat} {l3 : Nat} {l4 : Nat} {l5 : Int32} {l6 : Int32} {l7 : Int32} {o8 : Option Value} (m9 i9 : Nat) (g9 : Nat → Int64) (h10 : f l4 = .inl (3, m9, .inr (.inl g9))) (h11 : l4 < n) (h12 : mi_ix 0 m9 i9) (h13 : (lg_cmp (g9 i9) ((l7 : Int32).toInt64)) = (0 : Int32) → mi_W d 203 793 [some (.ref l1), some (.ref l2), some (.ref l3), some (.ref l4), some (.int l5), some (.int l6), some (.int l7), o8] [] (n, sl, f) Q) (h14 : ¬ ((lg_cmp (g9 i9) ((l7 : Int32).toInt64)) = (0 : Int32)) → mi_W d 203 791 [some (.ref l1), some (.ref l2), some (.ref l3), some (.ref l4), some (.int l5), some (.int l6), some (.int l7), o8] [] (n, sl, f) Q) : mi_W d 203 781 [some (.ref l1), some (.ref l2), some (.ref l3), some (.ref l4), some (.int l5), some (.int l6), some (.int l7), o8] [] (n, sl, f) Q := by
  refine w_aload_n cd_203_781 rfl ?_
  refine w_iconst (v := 0) cd_203_782 (by decide) ?_
  refine w_laload cd_203_783 h10 h11 h12 ?_
  refine w_iload cd_203_784 rfl ?_
  refine w_i2l cd_203_786 ?_
  refine w_lcmp cd_203_787 ?_
  exact w_ifeq cd_203_788 (by decide) h13 h14
theorem b_203_791 {d : Nat} {Q : (Option Value ⊕ Nat) → mi_H → Prop} (n sl : Nat) (f : Nat → mi_C) {l1 : Nat} {l2 : Nat} {l3 : Nat} {l4 : Nat} {l5 : Int32} {l6 : Int32} {l7 : Int32} {o8 : Option Value} (h9 : Q (.inl (some (.int 0))) (n, sl, f)) : mi_W d 203 791 [some (.ref l1), some (.ref l2), some (.ref l3), some (.ref l4), some (.int l5), some (.int l6), some (.int l7), o8] [] (n, sl, f) Q := by
  refine w_iconst (v := 0) cd_203_791 (by decide) ?_
  exact w_ireturn_z cd_203_792 (by decide +kernel) (by decide) h9
theorem b_203_793 {d : Nat} {Q : (Option Value ⊕ Nat) → mi_H → Prop} (n sl : Nat) (f : Nat → mi_C) {l1 : Nat} {l2 : Nat} {l3 : Nat} {l4 : Nat} {l5 : Int32} {l6 : Int32} {l7 : Int32} {o8 : Option Value} (h9 : mi_W d 203 1165 [some (.ref l1), some (.ref l2), some (.ref l3), some (.ref l4), some (.int l5), some (.int l6), some (.int l7), o8] [] (n, sl, f) Q) : mi_W d 203 793 [some (.ref l1), some (.ref l2), some (.ref l3), some (.ref l4), some (.int l5), some (.int l6), some (.int l7), o8] [] (n, sl, f) Q := by
  exact w_goto cd_203_793 (by decide) h9
theorem b_203_796 {d : Nat} {Q : (Option Value ⊕ Nat) → mi_H → Prop} (n sl : Nat) (f : Nat → mi_C) {l1 : Nat} {l2 : Nat} {l3 : Nat} {l4 : Nat} {l5 : Int32} {o6 : Option Value} {o7 : Option Value} {o8 : Option Value} (m9 i9 : Nat) (g9 : Nat → Int32) (m13 i13 : Nat) (g13 : Nat → Int32) (h10 : f l1 = .inl (0, m9, .inl g9)) (h11 : l1 < n ∨ l1 = mi_SC) (h12 : mi_ix (l5 + 1) m9 i9) (h14 : f l1 = .inl (0, m13, .inl g13)) (h15 : l1 < n ∨ l1 = mi_SC) (h16 : mi_ix (l5 + 2) m13 i13) (h17 : mi_W d 112 0 (mi_en 5 [.ref l2, .int (g9 i9), .int (g13 i13), .ref l4]) [] (n, sl, f) (mi_Kc d 203 810 [some (.ref l1), some (.ref l2), some (.ref l3), some (.ref l4), some (.int l5), o6, o7, o8] [] Q)) : mi_W (d + 1) 203 796 [some (.ref l1), some (.ref l2), some (.ref l3), some (.ref l4), some (.int l5), o6, o7, o8] [] (n, sl, f) Q := by
  refine w_aload_n cd_203_796 rfl ?_
  refine w_aload_n cd_203_797 rfl ?_
  refine w_iload cd_203_798 rfl ?_
  refine w_iconst (v := 1) cd_203_800 (by decide) ?_
  refine w_iadd cd_203_801 ?_
  refine w_iaload cd_203_802 h10 h11 h12 ?_
  refine w_aload_n cd_203_803 rfl ?_
  refine w_iload cd_203_804 rfl ?_
  refine w_iconst (v := 2) cd_203_806 (by decide) ?_
  refine w_iadd cd_203_807 ?_
  refine w_iaload cd_203_808 h14 h15 h16 ?_
  refine w_aload_n cd_203_809 rfl ?_
  exact w_invokestatic cd_203_810 (show mt_m 18 108 = some (112, 4) by decide +kernel) (by decide) (rest := []) rfl (as := [.ref l2, .int (g9 i9), .int (g13 i13), .ref l4]) rfl ⟨Nat.le_of_ble_eq_true rfl, Nat.le_of_ble_eq_true rfl, Nat.le_of_ble_eq_true rfl⟩ h17
theorem b_203_813 {d : Nat} {Q : (Option Value ⊕ Nat) → mi_H → Prop} (n sl : Nat) (f : Nat → mi_C) {l1 : Nat} {l2 : Nat} {l3 : Nat} {l4 : Nat} {l5 : Int32} {o6 : Option Value} {o7 : Option Value} {o8 : Option Value} {s9 : Int32} (m10 i10 : Nat) (g10 : Nat → Int32) (m14 i14 : Nat) (g14 : Nat → Int32) {fs18 : List Value} (h11 : f l1 = .inl (0, m10, .inl g10)) (h12 : l1 < n ∨ l1 = mi_SC) (h13 : mi_ix (l5 + 1) m10 i10) (h15 : f l1 = .inl (0, m14, .inl g14)) (h16 : l1 < n ∨ l1 = mi_SC) (h17 : mi_ix (l5 + 2) m14 i14) (h19 : f l3 = .inr (12, fs18)) (h20 : l3 < n) (h21 : mi_W d 190 0 (mi_en 3 [.ref l3, .int (g10 i10), .int (g14 i14)]) [] (n, sl, f) (mi_Kc d 203 828 [some (.ref l1), some (.ref l2), some (.ref l3), some (.ref l4), some (.int l5), some (.int s9), o7, o8] [] Q)) : mi_W (d + 1) 203 813 [some (.ref l1), some (.ref l2), some (.ref l3), some (.ref l4), some (.int l5), o6, o7, o8] [.int s9] (n, sl, f) Q := by
  refine w_istore (ls' := [some (.ref l1), some (.ref l2), some (.ref l3), some (.ref l4), some (.int l5), some (.int s9), o7, o8]) cd_203_813 (Nat.le_of_ble_eq_true rfl) rfl ?_
  refine w_aload_n cd_203_815 rfl ?_
  refine w_aload_n cd_203_816 rfl ?_
  refine w_iload cd_203_817 rfl ?_
  refine w_iconst (v := 1) cd_203_819 (by decide) ?_
  refine w_iadd cd_203_820 ?_
  refine w_iaload cd_203_821 h11 h12 h13 ?_
  refine w_aload_n cd_203_822 rfl ?_
  refine w_iload cd_203_823 rfl ?_
  refine w_iconst (v := 2) cd_203_825 (by decide) ?_
  refine w_iadd cd_203_826 ?_
  refine w_iaload cd_203_827 h15 h16 h17 ?_
  exact w_invokevirtual cd_203_828 (show mt_m 18 111 = some (190, 0) by decide +kernel) (rest := []) rfl (as := [.ref l3, .int (g10 i10), .int (g14 i14)]) rfl h19 (Or.inl h20) ⟨Nat.le_of_ble_eq_true rfl, Nat.le_of_ble_eq_true rfl, Nat.le_of_ble_eq_true rfl⟩ h21
theorem b_203_831 {d : Nat} {Q : (Option Value ⊕ Nat) → mi_H → Prop} (n sl : Nat) (f : Nat → mi_C) {l1 : Nat} {l2 : Nat} {l3 : Nat} {l4 : Nat} {l5 : Int32} {l6 : Int32} {o7 : Option Value} {o8 : Option Value} {s9 : Int32} {fs10 : List Value} (h11 : f l3 = .inr (12, fs10)) (h12 : l3 < n) (h13 : mi_W d 137 0 (mi_en 1 [.ref l3]) [] (n, sl, f) (mi_Kc d 203 834 [some (.ref l1), some (.ref l2), some (.ref l3), some (.ref l4), some (.int l5), some (.int l6), some (.int s9), o8] [] Q)) : mi_W (d + 1) 203 831 [some (.ref l1), some (.ref l2), some (.ref l3), some (.ref l4), some (.int l5), some (.int l6), o7, o8] [.int s9] (n, sl, f) Q := by
  refine w_istore (ls' := [some (.ref l1), some (.ref l2), some (.ref l3), some (.ref l4), some (.int l5), some (.int l6), some (.int s9), o8]) cd_203_831 (Nat.le_of_ble_eq_true rfl) rfl ?_
  refine w_aload_n cd_203_833 rfl ?_
  exact w_invokevirtual cd_203_834 (show mt_m 18 75 = some (137, 0) by decide +kernel) (rest := []) rfl (as := [.ref l3]) rfl h11 (Or.inl h12) ⟨Nat.le_of_ble_eq_true rfl, Nat.le_of_ble_eq_true rfl, Nat.le_of_ble_eq_true rfl⟩ h13
theorem b_203_837 {d : Nat} {Q : (Option Value ⊕ Nat) → mi_H → Prop} (n sl : Nat) (f : Nat → mi_C) {l1 : Nat} {l2 : Nat} {l3 : Nat} {l4 : Nat} {l5 : Int32} {l6 : Int32} {l7 : Int32} {o8 : Option Value} {s9 : Int32} (h10 : s9 = l6 → mi_W d 203 844 [some (.ref l1), some (.ref l2), some (.ref l3), some (.ref l4), some (.int l5), some (.int l6), some (.int l7), o8] [] (n, sl, f) Q) (h11 : ¬ (s9 = l6) → mi_W d 203 842 [some (.ref l1), some (.ref l2), some (.ref l3), some (.ref l4), some (.int l5), some (.int l6), some (.int l7), o8] [] (n, sl, f) Q) : mi_W d 203 837 [some (.ref l1), some (.ref l2), some (.ref l3), some (.ref l4), some (.int l5), some (.int l6), some (.int l7), o8] [.int s9] (n, sl, f) Q := by
  refine w_iload cd_203_837 rfl ?_
  exact w_if_icmpeq cd_203_839 (by decide) h10 h11
theorem b_203_842 {d : Nat} {Q : (Option Value ⊕ Nat) → mi_H → Prop} (n sl : Nat) (f : Nat → mi_C) {l1 : Nat} {l2 : Nat} {l3 : Nat} {l4 : Nat} {l5 : Int32} {l6 : Int32} {l7 : Int32} {o8 : Option Value} (h9 : Q (.inl (some (.int 0))) (n, sl, f)) : mi_W d 203 842 [some (.ref l1), some (.ref l2), some (.ref l3), some (.ref l4), some (.int l5), some (.int l6), some (.int l7), o8] [] (n, sl, f) Q := by
  refine w_iconst (v := 0) cd_203_842 (by decide) ?_
  exact w_ireturn_z cd_203_843 (by decide +kernel) (by decide) h9
theorem b_203_844 {d : Nat} {Q : (Option Value ⊕ Nat) → mi_H → Prop} (n sl : Nat) (f : Nat → mi_C) {l1 : Nat} {l2 : Nat} {l3 : Nat} {l4 : Nat} {l5 : Int32} {l6 : Int32} {l7 : Int32} {o8 : Option Value} (h9 : ¬ l6 = (0 : Int32) → mi_W d 203 861 [some (.ref l1), some (.ref l2), some (.ref l3), some (.ref l4), some (.int l5), some (.int l6), some (.int l7), o8] [] (n, sl, f) Q) (h10 : ¬ (¬ l6 = (0 : Int32)) → mi_W d 203 849 [some (.ref l1), some (.ref l2), some (.ref l3), some (.ref l4), some (.int l5), some (.int l6), some (.int l7), o8] [] (n, sl, f) Q) : mi_W d 203 844 [some (.ref l1), some (.ref l2), some (.ref l3), some (.ref l4), some (.int l5), some (.int l6), some (.int l7), o8] [] (n, sl, f) Q := by
  refine w_iload cd_203_844 rfl ?_
  exact w_ifne cd_203_846 (by decide) h9 h10
theorem b_203_849 {d : Nat} {Q : (Option Value ⊕ Nat) → mi_H → Prop} (n sl : Nat) (f : Nat → mi_C) {l1 : Nat} {l2 : Nat} {l3 : Nat} {l4 : Nat} {l5 : Int32} {l6 : Int32} {l7 : Int32} {o8 : Option Value} (m9 i9 : Nat) (g9 : Nat → Int64) (h10 : f l4 = .inl (3, m9, .inr (.inl g9))) (h11 : l4 < n) (h12 : mi_ix 0 m9 i9) (h13 : (lg_cmp (g9 i9) ((l7 : Int32).toInt64)) = (0 : Int32) → mi_W d 203 861 [some (.ref l1), some (.ref l2), some (.ref l3), some (.ref l4), some (.int l5), some (.int l6), some (.int l7), o8] [] (n, sl, f) Q) (h14 : ¬ ((lg_cmp (g9 i9) ((l7 : Int32).toInt64)) = (0 : Int32)) → mi_W d 203 859 [some (.ref l1), some (.ref l2), some (.ref l3), some (.ref l4), some (.int l5), some (.int l6), some (.int l7), o8] [] (n, sl, f) Q) : mi_W d 203 849 [some (.ref l1), some (.ref l2), some (.ref l3), some (.ref l4), some (.int l5), some (.int l6), some (.int l7), o8] [] (n, sl, f) Q := by
  refine w_aload_n cd_203_849 rfl ?_
  refine w_iconst (v := 0) cd_203_850 (by decide) ?_
  refine w_laload cd_203_851 h10 h11 h12 ?_
  refine w_iload cd_203_852 rfl ?_
  refine w_i2l cd_203_854 ?_
  refine w_lcmp cd_203_855 ?_
  exact w_ifeq cd_203_856 (by decide) h13 h14
theorem b_203_859 {d : Nat} {Q : (Option Value ⊕ Nat) → mi_H → Prop} (n sl : Nat) (f : Nat → mi_C) {l1 : Nat} {l2 : Nat} {l3 : Nat} {l4 : Nat} {l5 : Int32} {l6 : Int32} {l7 : Int32} {o8 : Option Value} (h9 : Q (.inl (some (.int 0))) (n, sl, f)) : mi_W d 203 859 [some (.ref l1), some (.ref l2), some (.ref l3), some (.ref l4), some (.int l5), some (.int l6), some (.int l7), o8] [] (n, sl, f) Q := by
  refine w_iconst (v := 0) cd_203_859 (by decide) ?_
  exact w_ireturn_z cd_203_860 (by decide +kernel) (by decide) h9
theorem b_203_861 {d : Nat} {Q : (Option Value ⊕ Nat) → mi_H → Prop} (n sl : Nat) (f : Nat → mi_C) {l1 : Nat} {l2 : Nat} {l3 : Nat} {l4 : Nat} {l5 : Int32} {l6 : Int32} {l7 : Int32} {o8 : Option Value} (h9 : mi_W d 203 1165 [some (.ref l1), some (.ref l2), some (.ref l3), some (.ref l4), some (.int l5), some (.int l6), some (.int l7), o8] [] (n, sl, f) Q) : mi_W d 203 861 [some (.ref l1), some (.ref l2), some (.ref l3), some (.ref l4), some (.int l5), some (.int l6), some (.int l7), o8] [] (n, sl, f) Q := by
  exact w_goto cd_203_861 (by decide) h9
theorem b_203_864 {d : Nat} {Q : (Option Value ⊕ Nat) → mi_H → Prop} (n sl : Nat) (f : Nat → mi_C) {l1 : Nat} {l2 : Nat} {l3 : Nat} {l4 : Nat} {l5 : Int32} {o6 : Option Value} {o7 : Option Value} {o8 : Option Value} (m9 i9 : Nat) (g9 : Nat → Int32) (h10 : f l1 = .inl (0, m9, .inl g9)) (h11 : l1 < n ∨ l1 = mi_SC) (h12 : mi_ix (l5 + 1) m9 i9) (h13 : mi_W d 114 0 (mi_en 4 [.ref l2, .int (g9 i9), .ref l4]) [] (n, sl, f) (mi_Kc d 203 872 [some (.ref l1), some (.ref l2), some (.ref l3), some (.ref l4), some (.int l5), o6, o7, o8] [] Q)) : mi_W (d + 1) 203 864 [some (.ref l1), some (.ref l2), some (.ref l3), some (.ref l4), some (.int l5), o6, o7, o8] [] (n, sl, f) Q := by
  refine w_aload_n cd_203_864 rfl ?_
  refine w_aload_n cd_203_865 rfl ?_
  refine w_iload cd_203_866 rfl ?_
  refine w_iconst (v := 1) cd_203_868 (by decide) ?_
  refine w_iadd cd_203_869 ?_
  refine w_iaload cd_203_870 h10 h11 h12 ?_
  refine w_aload_n cd_203_871 rfl ?_
  exact w_invokestatic cd_203_872 (show mt_m 18 112 = some (114, 4) by decide +kernel) (by decide) (rest := []) rfl (as := [.ref l2, .int (g9 i9), .ref l4]) rfl ⟨Nat.le_of_ble_eq_true rfl, Nat.le_of_ble_eq_true rfl, Nat.le_of_ble_eq_true rfl⟩ h13
theorem b_203_875 {d : Nat} {Q : (Option Value ⊕ Nat) → mi_H → Prop} (n sl : Nat) (f : Nat → mi_C) {l1 : Nat} {l2 : Nat} {l3 : Nat} {l4 : Nat} {l5 : Int32} {o6 : Option Value} {o7 : Option Value} {o8 : Option Value} {s9 : Int32} (m10 i10 : Nat) (g10 : Nat → Int32) {fs14 : List Value} (h11 : f l1 = .inl (0, m10, .inl g10)) (h12 : l1 < n ∨ l1 = mi_SC) (h13 : mi_ix (l5 + 1) m10 i10) (h15 : f l3 = .inr (12, fs14)) (h16 : l3 < n) (h17 : mi_W d 191 0 (mi_en 2 [.ref l3, .int (g10 i10)]) [] (n, sl, f) (mi_Kc d 203 884 [some (.ref l1), some (.ref l2), some (.ref l3), some (.ref l4), some (.int l5), some (.int s9), o7, o8] [] Q)) : mi_W (d + 1) 203 875 [some (.ref l1), some (.ref l2), some (.ref l3), some (.ref l4), some (.int l5), o6, o7, o8] [.int s9] (n, sl, f) Q := by
  refine w_istore (ls' := [some (.ref l1), some (.ref l2), some (.ref l3), some (.ref l4), some (.int l5), some (.int s9), o7, o8]) cd_203_875 (Nat.le_of_ble_eq_true rfl) rfl ?_
  refine w_aload_n cd_203_877 rfl ?_
  refine w_aload_n cd_203_878 rfl ?_
  refine w_iload cd_203_879 rfl ?_
  refine w_iconst (v := 1) cd_203_881 (by decide) ?_
  refine w_iadd cd_203_882 ?_
  refine w_iaload cd_203_883 h11 h12 h13 ?_
  exact w_invokevirtual cd_203_884 (show mt_m 18 114 = some (191, 0) by decide +kernel) (rest := []) rfl (as := [.ref l3, .int (g10 i10)]) rfl h15 (Or.inl h16) ⟨Nat.le_of_ble_eq_true rfl, Nat.le_of_ble_eq_true rfl, Nat.le_of_ble_eq_true rfl⟩ h17
theorem b_203_887 {d : Nat} {Q : (Option Value ⊕ Nat) → mi_H → Prop} (n sl : Nat) (f : Nat → mi_C) {l1 : Nat} {l2 : Nat} {l3 : Nat} {l4 : Nat} {l5 : Int32} {l6 : Int32} {o7 : Option Value} {o8 : Option Value} {s9 : Int64} {fs10 : List Value} (h11 : f l3 = .inr (12, fs10)) (h12 : l3 < n) (h13 : mi_W d 137 0 (mi_en 1 [.ref l3]) [] (n, sl, f) (mi_Kc d 203 890 [some (.ref l1), some (.ref l2), some (.ref l3), some (.ref l4), some (.int l5), some (.int l6), some (.long s9), none] [] Q)) : mi_W (d + 1) 203 887 [some (.ref l1), some (.ref l2), some (.ref l3), some (.ref l4), some (.int l5), some (.int l6), o7, o8] [.long s9] (n, sl, f) Q := by
  refine w_lstore (ls' := [some (.ref l1), some (.ref l2), some (.ref l3), some (.ref l4), some (.int l5), some (.int l6), some (.long s9), none]) cd_203_887 (Nat.le_of_ble_eq_true rfl) rfl ?_
  refine w_aload_n cd_203_889 rfl ?_
  exact w_invokevirtual cd_203_890 (show mt_m 18 75 = some (137, 0) by decide +kernel) (rest := []) rfl (as := [.ref l3]) rfl h11 (Or.inl h12) ⟨Nat.le_of_ble_eq_true rfl, Nat.le_of_ble_eq_true rfl, Nat.le_of_ble_eq_true rfl⟩ h13
theorem b_203_893 {d : Nat} {Q : (Option Value ⊕ Nat) → mi_H → Prop} (n sl : Nat) (f : Nat → mi_C) {l1 : Nat} {l2 : Nat} {l3 : Nat} {l4 : Nat} {l5 : Int32} {l6 : Int32} {l7 : Int64} {s8 : Int32} (h9 : s8 = l6 → mi_W d 203 900 [some (.ref l1), some (.ref l2), some (.ref l3), some (.ref l4), some (.int l5), some (.int l6), some (.long l7), none] [] (n, sl, f) Q) (h10 : ¬ (s8 = l6) → mi_W d 203 898 [some (.ref l1), some (.ref l2), some (.ref l3), some (.ref l4), some (.int l5), some (.int l6), some (.long l7), none] [] (n, sl, f) Q) : mi_W d 203 893 [some (.ref l1), some (.ref l2), some (.ref l3), some (.ref l4), some (.int l5), some (.int l6), some (.long l7), none] [.int s8] (n, sl, f) Q := by
  refine w_iload cd_203_893 rfl ?_
  exact w_if_icmpeq cd_203_895 (by decide) h9 h10
theorem b_203_898 {d : Nat} {Q : (Option Value ⊕ Nat) → mi_H → Prop} (n sl : Nat) (f : Nat → mi_C) {l1 : Nat} {l2 : Nat} {l3 : Nat} {l4 : Nat} {l5 : Int32} {l6 : Int32} {l7 : Int64} (h8 : Q (.inl (some (.int 0))) (n, sl, f)) : mi_W d 203 898 [some (.ref l1), some (.ref l2), some (.ref l3), some (.ref l4), some (.int l5), some (.int l6), some (.long l7), none] [] (n, sl, f) Q := by
  refine w_iconst (v := 0) cd_203_898 (by decide) ?_
  exact w_ireturn_z cd_203_899 (by decide +kernel) (by decide) h8
theorem b_203_900 {d : Nat} {Q : (Option Value ⊕ Nat) → mi_H → Prop} (n sl : Nat) (f : Nat → mi_C) {l1 : Nat} {l2 : Nat} {l3 : Nat} {l4 : Nat} {l5 : Int32} {l6 : Int32} {l7 : Int64} (h8 : ¬ l6 = (0 : Int32) → mi_W d 203 916 [some (.ref l1), some (.ref l2), some (.ref l3), some (.ref l4), some (.int l5), some (.int l6), some (.long l7), none] [] (n, sl, f) Q) (h9 : ¬ (¬ l6 = (0 : Int32)) → mi_W d 203 905 [some (.ref l1), some (.ref l2), some (.ref l3), some (.ref l4), some (.int l5), some (.int l6), some (.long l7), none] [] (n, sl, f) Q) : mi_W d 203 900 [some (.ref l1), some (.ref l2), some (.ref l3), some (.ref l4), some (.int l5), some (.int l6), some (.long l7), none] [] (n, sl, f) Q := by
  refine w_iload cd_203_900 rfl ?_
  exact w_ifne cd_203_902 (by decide) h8 h9
theorem b_203_905 {d : Nat} {Q : (Option Value ⊕ Nat) → mi_H → Prop} (n sl : Nat) (f : Nat → mi_C) {l1 : Nat} {l2 : Nat} {l3 : Nat} {l4 : Nat} {l5 : Int32} {l6 : Int32} {l7 : Int64} (m8 i8 : Nat) (g8 : Nat → Int64) (h9 : f l4 = .inl (3, m8, .inr (.inl g8))) (h10 : l4 < n) (h11 : mi_ix 0 m8 i8) (h12 : (lg_cmp (g8 i8) l7) = (0 : Int32) → mi_W d 203 916 [some (.ref l1), some (.ref l2), some (.ref l3), some (.ref l4), some (.int l5), some (.int l6), some (.long l7), none] [] (n, sl, f) Q) (h13 : ¬ ((lg_cmp (g8 i8) l7) = (0 : Int32)) → mi_W d 203 914 [some (.ref l1), some (.ref l2), some (.ref l3), some (.ref l4), some (.int l5), some (.int l6), some (.long l7), none] [] (n, sl, f) Q) : mi_W d 203 905 [some (.ref l1), some (.ref l2), some (.ref l3), some (.ref l4), some (.int l5), some (.int l6), some (.long l7), none] [] (n, sl, f) Q := by
  refine w_aload_n cd_203_905 rfl ?_
  refine w_iconst (v := 0) cd_203_906 (by decide) ?_
  refine w_laload cd_203_907 h9 h10 h11 ?_
  refine w_lload cd_203_908 rfl ?_
  refine w_lcmp cd_203_910 ?_
  exact w_ifeq cd_203_911 (by decide) h12 h13
theorem b_203_914 {d : Nat} {Q : (Option Value ⊕ Nat) → mi_H → Prop} (n sl : Nat) (f : Nat → mi_C) {l1 : Nat} {l2 : Nat} {l3 : Nat} {l4 : Nat} {l5 : Int32} {l6 : Int32} {l7 : Int64} (h8 : Q (.inl (some (.int 0))) (n, sl, f)) : mi_W d 203 914 [some (.ref l1), some (.ref l2), some (.ref l3), some (.ref l4), some (.int l5), some (.int l6), some (.long l7), none] [] (n, sl, f) Q := by
  refine w_iconst (v := 0) cd_203_914 (by decide) ?_
  exact w_ireturn_z cd_203_915 (by decide +kernel) (by decide) h8
theorem b_203_916 {d : Nat} {Q : (Option Value ⊕ Nat) → mi_H → Prop} (n sl : Nat) (f : Nat → mi_C) {l1 : Nat} {l2 : Nat} {l3 : Nat} {l4 : Nat} {l5 : Int32} {l6 : Int32} {l7 : Int64} (h8 : mi_W d 203 1165 [some (.ref l1), some (.ref l2), some (.ref l3), some (.ref l4), some (.int l5), some (.int l6), some (.long l7), none] [] (n, sl, f) Q) : mi_W d 203 916 [some (.ref l1), some (.ref l2), some (.ref l3), some (.ref l4), some (.int l5), some (.int l6), some (.long l7), none] [] (n, sl, f) Q := by
  exact w_goto cd_203_916 (by decide) h8
theorem b_203_919 {d : Nat} {Q : (Option Value ⊕ Nat) → mi_H → Prop} (n sl : Nat) (f : Nat → mi_C) {l1 : Nat} {l2 : Nat} {l3 : Nat} {l4 : Nat} {l5 : Int32} {o6 : Option Value} {o7 : Option Value} {o8 : Option Value} (m9 i9 : Nat) (g9 : Nat → Int32) (m13 i13 : Nat) (g13 : Nat → Int32) (m17 i17 : Nat) (g17 : Nat → Int32) (h10 : f l1 = .inl (0, m9, .inl g9)) (h11 : l1 < n ∨ l1 = mi_SC) (h12 : mi_ix (l5 + 1) m9 i9) (h14 : f l1 = .inl (0, m13, .inl g13)) (h15 : l1 < n ∨ l1 = mi_SC) (h16 : mi_ix (l5 + 2) m13 i13) (h18 : f l1 = .inl (0, m17, .inl g17)) (h19 : l1 < n ∨ l1 = mi_SC) (h20 : mi_ix (l5 + 3) m17 i17) (h21 : mi_W d 116 0 (mi_en 6 [.ref l2, .int (g9 i9), .int (g13 i13), .int (g17 i17), .ref l4]) [] (n, sl, f) (mi_Kc d 203 939 [some (.ref l1), some (.ref l2), some (.ref l3), some (.ref l4), some (.int l5), o6, o7, o8] [] Q)) : mi_W (d + 1) 203 919 [some (.ref l1), some (.ref l2), some (.ref l3), some (.ref l4), some (.int l5), o6, o7, o8] [] (n, sl, f) Q := by
  refine w_aload_n cd_203_919 rfl ?_
  refine w_aload_n cd_203_920 rfl ?_
  refine w_iload cd_203_921 rfl ?_
  refine w_iconst (v := 1) cd_203_923 (by decide) ?_
  refine w_iadd cd_203_924 ?_
  refine w_iaload cd_203_925 h10 h11 h12 ?_
  refine w_aload_n cd_203_926 rfl ?_
  refine w_iload cd_203_927 rfl ?_
  refine w_iconst (v := 2) cd_203_929 (by decide) ?_
  refine w_iadd cd_203_930 ?_
  refine w_iaload cd_203_931 h14 h15 h16 ?_
  refine w_aload_n cd_203_932 rfl ?_
  refine w_iload cd_203_933 rfl ?_
  refine w_iconst (v := 3) cd_203_935 (by decide) ?_
  refine w_iadd cd_203_936 ?_
  refine w_iaload cd_203_937 h18 h19 h20 ?_
  refine w_aload_n cd_203_938 rfl ?_
  exact w_invokestatic cd_203_939 (show mt_m 18 115 = some (116, 4) by decide +kernel) (by decide) (rest := []) rfl (as := [.ref l2, .int (g9 i9), .int (g13 i13), .int (g17 i17), .ref l4]) rfl ⟨Nat.le_of_ble_eq_true rfl, Nat.le_of_ble_eq_true rfl, Nat.le_of_ble_eq_true rfl⟩ h21
theorem b_203_942 {d : Nat} {Q : (Option Value ⊕ Nat) → mi_H → Prop} (n sl : Nat) (f : Nat → mi_C) {l1 : Nat} {l2 : Nat} {l3 : Nat} {l4 : Nat} {l5 : Int32} {o6 : Option Value} {o7 : Option Value} {o8 : Option Value} {s9 : Int32} (m10 i10 : Nat) (g10 : Nat → Int32) (m14 i14 : Nat) (g14 : Nat → Int32) (m18 i18 : Nat) (g18 : Nat → Int32) {fs22 : List Value} (h11 : f l1 = .inl (0, m10, .inl g10)) (h12 : l1 < n ∨ l1 = mi_SC) (h13 : mi_ix (l5 + 1) m10 i10) (h15 : f l1 = .inl (0, m14, .inl g14)) (h16 : l1 < n ∨ l1 = mi_SC) (h17 : mi_ix (l5 + 2) m14 i14) (h19 : f l1 = .inl (0, m18, .inl g18)) (h20 : l1 < n ∨ l1 = mi_SC) (h21 : mi_ix (l5 + 3) m18 i18) (h23 : f l3 = .inr (12, fs22)) (h24 : l3 < n) (h25 : mi_W d 192 0 (mi_en 4 [.ref l3, .int (g10 i10), .int (g14 i14), .int (g18 i18)]) [] (n, sl, f) (mi_Kc d 203 963 [some (.ref l1), some (.ref l2), some (.ref l3), some (.ref l4), some (.int l5), some (.int s9), o7, o8] [] Q)) : mi_W (d + 1) 203 942 [some (.ref l1), some (.ref l2), some (.ref l3), some (.ref l4), some (.int l5), o6, o7, o8] [.int s9] (n, sl, f) Q := by
  refine w_istore (ls' := [some (.ref l1), some (.ref l2), some (.ref l3), some (.ref l4), some (.int l5), some (.int s9), o7, o8]) cd_203_942 (Nat.le_of_ble_eq_true rfl) rfl ?_
  refine w_aload_n cd_203_944 rfl ?_
  refine w_aload_n cd_203_945 rfl ?_
  refine w_iload cd_203_946 rfl ?_
  refine w_iconst (v := 1) cd_203_948 (by decide) ?_
  refine w_iadd cd_203_949 ?_
  refine w_iaload cd_203_950 h11 h12 h13 ?_
  refine w_aload_n cd_203_951 rfl ?_
  refine w_iload cd_203_952 rfl ?_
  refine w_iconst (v := 2) cd_203_954 (by decide) ?_
  refine w_iadd cd_203_955 ?_
  refine w_iaload cd_203_956 h15 h16 h17 ?_
  refine w_aload_n cd_203_957 rfl ?_
  refine w_iload cd_203_958 rfl ?_
  refine w_iconst (v := 3) cd_203_960 (by decide) ?_
  refine w_iadd cd_203_961 ?_
  refine w_iaload cd_203_962 h19 h20 h21 ?_
  exact w_invokevirtual cd_203_963 (show mt_m 18 118 = some (192, 0) by decide +kernel) (rest := []) rfl (as := [.ref l3, .int (g10 i10), .int (g14 i14), .int (g18 i18)]) rfl h23 (Or.inl h24) ⟨Nat.le_of_ble_eq_true rfl, Nat.le_of_ble_eq_true rfl, Nat.le_of_ble_eq_true rfl⟩ h25
theorem b_203_966 {d : Nat} {Q : (Option Value ⊕ Nat) → mi_H → Prop} (n sl : Nat) (f : Nat → mi_C) {l1 : Nat} {l2 : Nat} {l3 : Nat} {l4 : Nat} {l5 : Int32} {l6 : Int32} {o7 : Option Value} {o8 : Option Value} {s9 : Int64} {fs10 : List Value} (h11 : f l3 = .inr (12, fs10)) (h12 : l3 < n) (h13 : mi_W d 137 0 (mi_en 1 [.ref l3]) [] (n, sl, f) (mi_Kc d 203 969 [some (.ref l1), some (.ref l2), some (.ref l3), some (.ref l4), some (.int l5), some (.int l6), some (.long s9), none] [] Q)) : mi_W (d + 1) 203 966 [some (.ref l1), some (.ref l2), some (.ref l3), some (.ref l4), some (.int l5), some (.int l6), o7, o8] [.long s9] (n, sl, f) Q := by
  refine w_lstore (ls' := [some (.ref l1), some (.ref l2), some (.ref l3), some (.ref l4), some (.int l5), some (.int l6), some (.long s9), none]) cd_203_966 (Nat.le_of_ble_eq_true rfl) rfl ?_
  refine w_aload_n cd_203_968 rfl ?_
  exact w_invokevirtual cd_203_969 (show mt_m 18 75 = some (137, 0) by decide +kernel) (rest := []) rfl (as := [.ref l3]) rfl h11 (Or.inl h12) ⟨Nat.le_of_ble_eq_true rfl, Nat.le_of_ble_eq_true rfl, Nat.le_of_ble_eq_true rfl⟩ h13
theorem b_203_972 {d : Nat} {Q : (Option Value ⊕ Nat) → mi_H → Prop} (n sl : Nat) (f : Nat → mi_C) {l1 : Nat} {l2 : Nat} {l3 : Nat} {l4 : Nat} {l5 : Int32} {l6 : Int32} {l7 : Int64} {s8 : Int32} (h9 : s8 = l6 → mi_W d 203 979 [some (.ref l1), some (.ref l2), some (.ref l3), some (.ref l4), some (.int l5), some (.int l6), some (.long l7), none] [] (n, sl, f) Q) (h10 : ¬ (s8 = l6) → mi_W d 203 977 [some (.ref l1), some (.ref l2), some (.ref l3), some (.ref l4), some (.int l5), some (.int l6), some (.long l7), none] [] (n, sl, f) Q) : mi_W d 203 972 [some (.ref l1), some (.ref l2), some (.ref l3), some (.ref l4), some (.int l5), some (.int l6), some (.long l7), none] [.int s8] (n, sl, f) Q := by
  refine w_iload cd_203_972 rfl ?_
  exact w_if_icmpeq cd_203_974 (by decide) h9 h10
theorem b_203_977 {d : Nat} {Q : (Option Value ⊕ Nat) → mi_H → Prop} (n sl : Nat) (f : Nat → mi_C) {l1 : Nat} {l2 : Nat} {l3 : Nat} {l4 : Nat} {l5 : Int32} {l6 : Int32} {l7 : Int64} (h8 : Q (.inl (some (.int 0))) (n, sl, f)) : mi_W d 203 977 [some (.ref l1), some (.ref l2), some (.ref l3), some (.ref l4), some (.int l5), some (.int l6), some (.long l7), none] [] (n, sl, f) Q := by
  refine w_iconst (v := 0) cd_203_977 (by decide) ?_
  exact w_ireturn_z cd_203_978 (by decide +kernel) (by decide) h8
theorem b_203_979 {d : Nat} {Q : (Option Value ⊕ Nat) → mi_H → Prop} (n sl : Nat) (f : Nat → mi_C) {l1 : Nat} {l2 : Nat} {l3 : Nat} {l4 : Nat} {l5 : Int32} {l6 : Int32} {l7 : Int64} (h8 : ¬ l6 = (0 : Int32) → mi_W d 203 995 [some (.ref l1), some (.ref l2), some (.ref l3), some (.ref l4), some (.int l5), some (.int l6), some (.long l7), none] [] (n, sl, f) Q) (h9 : ¬ (¬ l6 = (0 : Int32)) → mi_W d 203 984 [some (.ref l1), some (.ref l2), some (.ref l3), some (.ref l4), some (.int l5), some (.int l6), some (.long l7), none] [] (n, sl, f) Q) : mi_W d 203 979 [some (.ref l1), some (.ref l2), some (.ref l3), some (.ref l4), some (.int l5), some (.int l6), some (.long l7), none] [] (n, sl, f) Q := by
  refine w_iload cd_203_979 rfl ?_
  exact w_ifne cd_203_981 (by decide) h8 h9
theorem b_203_984 {d : Nat} {Q : (Option Value ⊕ Nat) → mi_H → Prop} (n sl : Nat) (f : Nat → mi_C) {l1 : Nat} {l2 : Nat} {l3 : Nat} {l4 : Nat} {l5 : Int32} {l6 : Int32} {l7 : Int64} (m8 i8 : Nat) (g8 : Nat → Int64) (h9 : f l4 = .inl (3, m8, .inr (.inl g8))) (h10 : l4 < n) (h11 : mi_ix 0 m8 i8) (h12 : (lg_cmp (g8 i8) l7) = (0 : Int32) → mi_W d 203 995 [some (.ref l1), some (.ref l2), some (.ref l3), some (.ref l4), some (.int l5), some (.int l6), some (.long l7), none] [] (n, sl, f) Q) (h13 : ¬ ((lg_cmp (g8 i8) l7) = (0 : Int32)) → mi_W d 203 993 [some (.ref l1), some (.ref l2), some (.ref l3), some (.ref l4), some (.int l5), some (.int l6), some (.long l7), none] [] (n, sl, f) Q) : mi_W d 203 984 [some (.ref l1), some (.ref l2), some (.ref l3), some (.ref l4), some (.int l5), some (.int l6), some (.long l7), none] [] (n, sl, f) Q := by
  refine w_aload_n cd_203_984 rfl ?_
  refine w_iconst (v := 0) cd_203_985 (by decide) ?_
  refine w_laload cd_203_986 h9 h10 h11 ?_
  refine w_lload cd_203_987 rfl ?_
  refine w_lcmp cd_203_989 ?_
  exact w_ifeq cd_203_990 (by decide) h12 h13
theorem b_203_993 {d : Nat} {Q : (Option Value ⊕ Nat) → mi_H → Prop} (n sl : Nat) (f : Nat → mi_C) {l1 : Nat} {l2 : Nat} {l3 : Nat} {l4 : Nat} {l5 : Int32} {l6 : Int32} {l7 : Int64} (h8 : Q (.inl (some (.int 0))) (n, sl, f)) : mi_W d 203 993 [some (.ref l1), some (.ref l2), some (.ref l3), some (.ref l4), some (.int l5), some (.int l6), some (.long l7), none] [] (n, sl, f) Q := by
  refine w_iconst (v := 0) cd_203_993 (by decide) ?_
  exact w_ireturn_z cd_203_994 (by decide +kernel) (by decide) h8
theorem b_203_995 {d : Nat} {Q : (Option Value ⊕ Nat) → mi_H → Prop} (n sl : Nat) (f : Nat → mi_C) {l1 : Nat} {l2 : Nat} {l3 : Nat} {l4 : Nat} {l5 : Int32} {l6 : Int32} {l7 : Int64} (h8 : mi_W d 203 1165 [some (.ref l1), some (.ref l2), some (.ref l3), some (.ref l4), some (.int l5), some (.int l6), some (.long l7), none] [] (n, sl, f) Q) : mi_W d 203 995 [some (.ref l1), some (.ref l2), some (.ref l3), some (.ref l4), some (.int l5), some (.int l6), some (.long l7), none] [] (n, sl, f) Q := by
  exact w_goto cd_203_995 (by decide) h8
theorem b_203_998 {d : Nat} {Q : (Option Value ⊕ Nat) → mi_H → Prop} (n sl : Nat) (f : Nat → mi_C) {l1 : Nat} {l2 : Nat} {l3 : Nat} {l4 : Nat} {l5 : Int32} {o6 : Option Value} {o7 : Option Value} {o8 : Option Value} (h9 : mi_W d 118 0 (mi_en 3 [.ref l2, .ref l4]) [] (n, sl, f) (mi_Kc d 203 1000 [some (.ref l1), some (.ref l2), some (.ref l3), some (.ref l4), some (.int l5), o6, o7, o8] [] Q)) : mi_W (d + 1) 203 998 [some (.ref l1), some (.ref l2), some (.ref l3), some (.ref l4), some (.int l5), o6, o7, o8] [] (n, sl, f) Q := by
  refine w_aload_n cd_203_998 rfl ?_
  refine w_aload_n cd_203_999 rfl ?_
  exact w_invokestatic cd_203_1000 (show mt_m 18 119 = some (118, 4) by decide +kernel) (by decide) (rest := []) rfl (as := [.ref l2, .ref l4]) rfl ⟨Nat.le_of_ble_eq_true rfl, Nat.le_of_ble_eq_true rfl, Nat.le_of_ble_eq_true rfl⟩ h9
theorem b_203_1003 {d : Nat} {Q : (Option Value ⊕ Nat) → mi_H → Prop} (n sl : Nat) (f : Nat → mi_C) {l1 : Nat} {l2 : Nat} {l3 : Nat} {l4 : Nat} {l5 : Int32} {o6 : Option Value} {o7 : Option Value} {o8 : Option Value} {s9 : Int32} {fs10 : List Value} (h11 : f l3 = .inr (12, fs10)) (h12 : l3 < n) (h13 : mi_W d 193 0 (mi_en 4 [.ref l3]) [] (n, sl, f) (mi_Kc d 203 1006 [some (.ref l1), some (.ref l2), some (.ref l3), some (.ref l4), some (.int l5), some (.int s9), o7, o8] [] Q)) : mi_W (d + 1) 203 1003 [some (.ref l1), some (.ref l2), some (.ref l3), some (.ref l4), some (.int l5), o6, o7, o8] [.int s9] (n, sl, f) Q := by
  refine w_istore (ls' := [some (.ref l1), some (.ref l2), some (.ref l3), some (.ref l4), some (.int l5), some (.int s9), o7, o8]) cd_203_1003 (Nat.le_of_ble_eq_true rfl) rfl ?_
  refine w_aload_n cd_203_1005 rfl ?_
  exact w_invokevirtual cd_203_1006 (show mt_m 18 121 = some (193, 0) by decide +kernel) (rest := []) rfl (as := [.ref l3]) rfl h11 (Or.inl h12) ⟨Nat.le_of_ble_eq_true rfl, Nat.le_of_ble_eq_true rfl, Nat.le_of_ble_eq_true rfl⟩ h13
theorem b_203_1009 {d : Nat} {Q : (Option Value ⊕ Nat) → mi_H → Prop} (n sl : Nat) (f : Nat → mi_C) {l1 : Nat} {l2 : Nat} {l3 : Nat} {l4 : Nat} {l5 : Int32} {l6 : Int32} {o7 : Option Value} {o8 : Option Value} {s9 : Int32} {fs10 : List Value} (h11 : f l3 = .inr (12, fs10)) (h12 : l3 < n) (h13 : mi_W d 137 0 (mi_en 1 [.ref l3]) [] (n, sl, f) (mi_Kc d 203 1012 [some (.ref l1), some (.ref l2), some (.ref l3), some (.ref l4), some (.int l5), some (.int l6), some (.int s9), o8] [] Q)) : mi_W (d + 1) 203 1009 [some (.ref l1), some (.ref l2), some (.ref l3), some (.ref l4), some (.int l5), some (.int l6), o7, o8] [.int s9] (n, sl, f) Q := by
  refine w_istore (ls' := [some (.ref l1), some (.ref l2), some (.ref l3), some (.ref l4), some (.int l5), some (.int l6), some (.int s9), o8]) cd_203_1009 (Nat.le_of_ble_eq_true rfl) rfl ?_
  refine w_aload_n cd_203_1011 rfl ?_
  exact w_invokevirtual cd_203_1012 (show mt_m 18 75 = some (137, 0) by decide +kernel) (rest := []) rfl (as := [.ref l3]) rfl h11 (Or.inl h12) ⟨Nat.le_of_ble_eq_true rfl, Nat.le_of_ble_eq_true rfl, Nat.le_of_ble_eq_true rfl⟩ h13
theorem b_203_1015 {d : Nat} {Q : (Option Value ⊕ Nat) → mi_H → Prop} (n sl : Nat) (f : Nat → mi_C) {l1 : Nat} {l2 : Nat} {l3 : Nat} {l4 : Nat} {l5 : Int32} {l6 : Int32} {l7 : Int32} {o8 : Option Value} {s9 : Int32} (h10 : s9 = l6 → mi_W d 203 1022 [some (.ref l1), some (.ref l2), some (.ref l3), some (.ref l4), some (.int l5), some (.int l6), some (.int l7), o8] [] (n, sl, f) Q) (h11 : ¬ (s9 = l6) → mi_W d 203 1020 [some (.ref l1), some (.ref l2), some (.ref l3), some (.ref l4), some (.int l5), some (.int l6), some (.int l7), o8] [] (n, sl, f) Q) : mi_W d 203 1015 [some (.ref l1), some (.ref l2), some (.ref l3), some (.ref l4), some (.int l5), some (.int l6), some (.int l7), o8] [.int s9] (n, sl, f) Q := by
  refine w_iload cd_203_1015 rfl ?_
  exact w_if_icmpeq cd_203_1017 (by decide) h10 h11
theorem b_203_1020 {d : Nat} {Q : (Option Value ⊕ Nat) → mi_H → Prop} (n sl : Nat) (f : Nat → mi_C) {l1 : Nat} {l2 : Nat} {l3 : Nat} {l4 : Nat} {l5 : Int32} {l6 : Int32} {l7 : Int32} {o8 : Option Value} (h9 : Q (.inl (some (.int 0))) (n, sl, f)) : mi_W d 203 1020 [some (.ref l1), some (.ref l2), some (.ref l3), some (.ref l4), some (.int l5), some (.int l6), some (.int l7), o8] [] (n, sl, f) Q := by
  refine w_iconst (v := 0) cd_203_1020 (by decide) ?_
  exact w_ireturn_z cd_203_1021 (by decide +kernel) (by decide) h9
theorem b_203_1022 {d : Nat} {Q : (Option Value ⊕ Nat) → mi_H → Prop} (n sl : Nat) (f : Nat → mi_C) {l1 : Nat} {l2 : Nat} {l3 : Nat} {l4 : Nat} {l5 : Int32} {l6 : Int32} {l7 : Int32} {o8 : Option Value} (h9 : ¬ l6 = (0 : Int32) → mi_W d 203 1039 [some (.ref l1), some (.ref l2), some (.ref l3), some (.ref l4), some (.int l5), some (.int l6), some (.int l7), o8] [] (n, sl, f) Q) (h10 : ¬ (¬ l6 = (0 : Int32)) → mi_W d 203 1027 [some (.ref l1), some (.ref l2), some (.ref l3), some (.ref l4), some (.int l5), some (.int l6), some (.int l7), o8] [] (n, sl, f) Q) : mi_W d 203 1022 [some (.ref l1), some (.ref l2), some (.ref l3), some (.ref l4), some (.int l5), some (.int l6), some (.int l7), o8] [] (n, sl, f) Q := by
  refine w_iload cd_203_1022 rfl ?_
  exact w_ifne cd_203_1024 (by decide) h9 h10
theorem b_203_1027 {d : Nat} {Q : (Option Value ⊕ Nat) → mi_H → Prop} (n sl : Nat) (f : Nat → mi_C) {l1 : Nat} {l2 : Nat} {l3 : Nat} {l4 : Nat} {l5 : Int32} {l6 : Int32} {l7 : Int32} {o8 : Option Value} (m9 i9 : Nat) (g9 : Nat → Int64) (h10 : f l4 = .inl (3, m9, .inr (.inl g9))) (h11 : l4 < n) (h12 : mi_ix 0 m9 i9) (h13 : (lg_cmp (g9 i9) ((l7 : Int32).toInt64)) = (0 : Int32) → mi_W d 203 1039 [some (.ref l1), some (.ref l2), some (.ref l3), some (.ref l4), some (.int l5), some (.int l6), some (.int l7), o8] [] (n, sl, f) Q) (h14 : ¬ ((lg_cmp (g9 i9) ((l7 : Int32).toInt64)) = (0 : Int32)) → mi_W d 203 1037 [some (.ref l1), some (.ref l2), some (.ref l3), some (.ref l4), some (.int l5), some (.int l6), some (.int l7), o8] [] (n, sl, f) Q) : mi_W d 203 1027 [some (.ref l1), some (.ref l2), some (.ref l3), some (.ref l4), some (.int l5), some (.int l6), some (.int l7), o8] [] (n, sl, f) Q := by
  refine w_aload_n cd_203_1027 rfl ?_
  refine w_iconst (v := 0) cd_203_1028 (by decide) ?_
  refine w_laload cd_203_1029 h10 h11 h12 ?_
  refine w_iload cd_203_1030 rfl ?_
  refine w_i2l cd_203_1032 ?_
  refine w_lcmp cd_203_1033 ?_
  exact w_ifeq cd_203_1034 (by decide) h13 h14
theorem b_203_1037 {d : Nat} {Q : (Option Value ⊕ Nat) → mi_H → Prop} (n sl : Nat) (f : Nat → mi_C) {l1 : Nat} {l2 : Nat} {l3 : Nat} {l4 : Nat} {l5 : Int32} {l6 : Int32} {l7 : Int32} {o8 : Option Value} (h9 : Q (.inl (some (.int 0))) (n, sl, f)) : mi_W d 203 1037 [some (.ref l1), some (.ref l2), some (.ref l3), some (.ref l4), some (.int l5), some (.int l6), some (.int l7), o8] [] (n, sl, f) Q := by
  refine w_iconst (v := 0) cd_203_1037 (by decide) ?_
  exact w_ireturn_z cd_203_1038 (by decide +kernel) (by decide) h9
theorem b_203_1039 {d : Nat} {Q : (Option Value ⊕ Nat) → mi_H → Prop} (n sl : Nat) (f : Nat → mi_C) {l1 : Nat} {l2 : Nat} {l3 : Nat} {l4 : Nat} {l5 : Int32} {l6 : Int32} {l7 : Int32} {o8 : Option Value} (h9 : mi_W d 203 1165 [some (.ref l1), some (.ref l2), some (.ref l3), some (.ref l4), some (.int l5), some (.int l6), some (.int l7), o8] [] (n, sl, f) Q) : mi_W d 203 1039 [some (.ref l1), some (.ref l2), some (.ref l3), some (.ref l4), some (.int l5), some (.int l6), some (.int l7), o8] [] (n, sl, f) Q := by
  exact w_goto cd_203_1039 (by decide) h9
theorem b_203_1042 {d : Nat} {Q : (Option Value ⊕ Nat) → mi_H → Prop} (n sl : Nat) (f : Nat → mi_C) {l1 : Nat} {l2 : Nat} {l3 : Nat} {l4 : Nat} {l5 : Int32} {o6 : Option Value} {o7 : Option Value} {o8 : Option Value} (m9 i9 : Nat) (g9 : Nat → Int32) (m13 i13 : Nat) (g13 : Nat → Int32) (h10 : f l1 = .inl (0, m9, .inl g9)) (h11 : l1 < n ∨ l1 = mi_SC) (h12 : mi_ix (l5 + 1) m9 i9) (h14 : f l1 = .inl (0, m13, .inl g13)) (h15 : l1 < n ∨ l1 = mi_SC) (h16 : mi_ix (l5 + 2) m13 i13) (h17 : mi_W d 130 0 (mi_en 5 [.ref l2, .int (g9 i9), .int (g13 i13), .ref l4]) [] (n, sl, f) (mi_Kc d 203 1056 [some (.ref l1), some (.ref l2), some (.ref l3), some (.ref l4), some (.int l5), o6, o7, o8] [] Q)) : mi_W (d + 1) 203 1042 [some (.ref l1), some (.ref l2), some (.ref l3), some (.ref l4), some (.int l5), o6, o7, o8] [] (n, sl, f) Q := by
  refine w_aload_n cd_203_1042 rfl ?_
  refine w_aload_n cd_203_1043 rfl ?_
  refine w_iload cd_203_1044 rfl ?_
  refine w_iconst (v := 1) cd_203_1046 (by decide) ?_
  refine w_iadd cd_203_1047 ?_
  refine w_iaload cd_203_1048 h10 h11 h12 ?_
  refine w_aload_n cd_203_1049 rfl ?_
  refine w_iload cd_203_1050 rfl ?_
  refine w_iconst (v := 2) cd_203_1052 (by decide) ?_
  refine w_iadd cd_203_1053 ?_
  refine w_iaload cd_203_1054 h14 h15 h16 ?_
  refine w_aload_n cd_203_1055 rfl ?_
  exact w_invokestatic cd_203_1056 (show mt_m 18 122 = some (130, 4) by decide +kernel) (by decide) (rest := []) rfl (as := [.ref l2, .int (g9 i9), .int (g13 i13), .ref l4]) rfl ⟨Nat.le_of_ble_eq_true rfl, Nat.le_of_ble_eq_true rfl, Nat.le_of_ble_eq_true rfl⟩ h17
theorem b_203_1059 {d : Nat} {Q : (Option Value ⊕ Nat) → mi_H → Prop} (n sl : Nat) (f : Nat → mi_C) {l1 : Nat} {l2 : Nat} {l3 : Nat} {l4 : Nat} {l5 : Int32} {o6 : Option Value} {o7 : Option Value} {o8 : Option Value} {s9 : Int32} (m10 i10 : Nat) (g10 : Nat → Int32) (m14 i14 : Nat) (g14 : Nat → Int32) {fs18 : List Value} (h11 : f l1 = .inl (0, m10, .inl g10)) (h12 : l1 < n ∨ l1 = mi_SC) (h13 : mi_ix (l5 + 1) m10 i10) (h15 : f l1 = .inl (0, m14, .inl g14)) (h16 : l1 < n ∨ l1 = mi_SC) (h17 : mi_ix (l5 + 2) m14 i14) (h19 : f l3 = .inr (12, fs18)) (h20 : l3 < n) (h21 : mi_W d 201 0 (mi_en 3 [.ref l3, .int (g10 i10), .int (g14 i14)]) [] (n, sl, f) (mi_Kc d 203 1074 [some (.ref l1), some (.ref l2), some (.ref l3), some (.ref l4), some (.int l5), some (.int s9), o7, o8] [] Q)) : mi_W (d + 1) 203 1059 [some (.ref l1), some (.ref l2), some (.ref l3), some (.ref l4), some (.int l5), o6, o7, o8] [.int s9] (n, sl, f) Q := by
  refine w_istore (ls' := [some (.ref l1), some (.ref l2), some (.ref l3), some (.ref l4), some (.int l5), some (.int s9), o7, o8]) cd_203_1059 (Nat.le_of_ble_eq_true rfl) rfl ?_
  refine w_aload_n cd_203_1061 rfl ?_
  refine w_aload_n cd_203_1062 rfl ?_
  refine w_iload cd_203_1063 rfl ?_
  refine w_iconst (v := 1) cd_203_1065 (by decide) ?_
  refine w_iadd cd_203_1066 ?_
  refine w_iaload cd_203_1067 h11 h12 h13 ?_
  refine w_aload_n cd_203_1068 rfl ?_
  refine w_iload cd_203_1069 rfl ?_
  refine w_iconst (v := 2) cd_203_1071 (by decide) ?_
  refine w_iadd cd_203_1072 ?_
  refine w_iaload cd_203_1073 h15 h16 h17 ?_
  exact w_invokevirtual cd_203_1074 (show mt_m 18 124 = some (201, 0) by decide +kernel) (rest := []) rfl (as := [.ref l3, .int (g10 i10), .int (g14 i14)]) rfl h19 (Or.inl h20) ⟨Nat.le_of_ble_eq_true rfl, Nat.le_of_ble_eq_true rfl, Nat.le_of_ble_eq_true rfl⟩ h21
theorem b_203_1077 {d : Nat} {Q : (Option Value ⊕ Nat) → mi_H → Prop} (n sl : Nat) (f : Nat → mi_C) {l1 : Nat} {l2 : Nat} {l3 : Nat} {l4 : Nat} {l5 : Int32} {l6 : Int32} {o7 : Option Value} {o8 : Option Value} {s9 : Int64} {fs10 : List Value} (h11 : f l3 = .inr (12, fs10)) (h12 : l3 < n) (h13 : mi_W d 137 0 (mi_en 1 [.ref l3]) [] (n, sl, f) (mi_Kc d 203 1080 [some (.ref l1), some (.ref l2), some (.ref l3), some (.ref l4), some (.int l5), some (.int l6), some (.long s9), none] [] Q)) : mi_W (d + 1) 203 1077 [some (.ref l1), some (.ref l2), some (.ref l3), some (.ref l4), some (.int l5), some (.int l6), o7, o8] [.long s9] (n, sl, f) Q := by
  refine w_lstore (ls' := [some (.ref l1), some (.ref l2), some (.ref l3), some (.ref l4), some (.int l5), some (.int l6), some (.long s9), none]) cd_203_1077 (Nat.le_of_ble_eq_true rfl) rfl ?_
  refine w_aload_n cd_203_1079 rfl ?_
  exact w_invokevirtual cd_203_1080 (show mt_m 18 75 = some (137, 0) by decide +kernel) (rest := []) rfl (as := [.ref l3]) rfl h11 (Or.inl h12) ⟨Nat.le_of_ble_eq_true rfl, Nat.le_of_ble_eq_true rfl, Nat.le_of_ble_eq_true rfl⟩ h13
theorem b_203_1083 {d : Nat} {Q : (Option Value ⊕ Nat) → mi_H → Prop} (n sl : Nat) (f : Nat → mi_C) {l1 : Nat} {l2 : Nat} {l3 : Nat} {l4 : Nat} {l5 : Int32} {l6 : Int32} {l7 : Int64} {s8 : Int32} (h9 : s8 = l6 → mi_W d 203 1090 [some (.ref l1), some (.ref l2), some (.ref l3), some (.ref l4), some (.int l5), some (.int l6), some (.long l7), none] [] (n, sl, f) Q) (h10 : ¬ (s8 = l6) → mi_W d 203 1088 [some (.ref l1), some (.ref l2), some (.ref l3), some (.ref l4), some (.int l5), some (.int l6), some (.long l7), none] [] (n, sl, f) Q) : mi_W d 203 1083 [some (.ref l1), some (.ref l2), some (.ref l3), some (.ref l4), some (.int l5), some (.int l6), some (.long l7), none] [.int s8] (n, sl, f) Q := by
  refine w_iload cd_203_1083 rfl ?_
  exact w_if_icmpeq cd_203_1085 (by decide) h9 h10
theorem b_203_1088 {d : Nat} {Q : (Option Value ⊕ Nat) → mi_H → Prop} (n sl : Nat) (f : Nat → mi_C) {l1 : Nat} {l2 : Nat} {l3 : Nat} {l4 : Nat} {l5 : Int32} {l6 : Int32} {l7 : Int64} (h8 : Q (.inl (some (.int 0))) (n, sl, f)) : mi_W d 203 1088 [some (.ref l1), some (.ref l2), some (.ref l3), some (.ref l4), some (.int l5), some (.int l6), some (.long l7), none] [] (n, sl, f) Q := by
  refine w_iconst (v := 0) cd_203_1088 (by decide) ?_
  exact w_ireturn_z cd_203_1089 (by decide +kernel) (by decide) h8
theorem b_203_1090 {d : Nat} {Q : (Option Value ⊕ Nat) → mi_H → Prop} (n sl : Nat) (f : Nat → mi_C) {l1 : Nat} {l2 : Nat} {l3 : Nat} {l4 : Nat} {l5 : Int32} {l6 : Int32} {l7 : Int64} (h8 : ¬ l6 = (0 : Int32) → mi_W d 203 1106 [some (.ref l1), some (.ref l2), some (.ref l3), some (.ref l4), some (.int l5), some (.int l6), some (.long l7), none] [] (n, sl, f) Q) (h9 : ¬ (¬ l6 = (0 : Int32)) → mi_W d 203 1095 [some (.ref l1), some (.ref l2), some (.ref l3), some (.ref l4), some (.int l5), some (.int l6), some (.long l7), none] [] (n, sl, f) Q) : mi_W d 203 1090 [some (.ref l1), some (.ref l2), some (.ref l3), some (.ref l4), some (.int l5), some (.int l6), some (.long l7), none] [] (n, sl, f) Q := by
  refine w_iload cd_203_1090 rfl ?_
  exact w_ifne cd_203_1092 (by decide) h8 h9
theorem b_203_1095 {d : Nat} {Q : (Option Value ⊕ Nat) → mi_H → Prop} (n sl : Nat) (f : Nat → mi_C) {l1 : Nat} {l2 : Nat} {l3 : Nat} {l4 : Nat} {l5 : Int32} {l6 : Int32} {l7 : Int64} (m8 i8 : Nat) (g8 : Nat → Int64) (h9 : f l4 = .inl (3, m8, .inr (.inl g8))) (h10 : l4 < n) (h11 : mi_ix 0 m8 i8) (h12 : (lg_cmp (g8 i8) l7) = (0 : Int32) → mi_W d 203 1106 [some (.ref l1), some (.ref l2), some (.ref l3), some (.ref l4), some (.int l5), some (.int l6), some (.long l7), none] [] (n, sl, f) Q) (h13 : ¬ ((lg_cmp (g8 i8) l7) = (0 : Int32)) → mi_W d 203 1104 [some (.ref l1), some (.ref l2), some (.ref l3), some (.ref l4), some (.int l5), some (.int l6), some (.long l7), none] [] (n, sl, f) Q) : mi_W d 203 1095 [some (.ref l1), some (.ref l2), some (.ref l3), some (.ref l4), some (.int l5), some (.int l6), some (.long l7), none] [] (n, sl, f) Q := by
  refine w_aload_n cd_203_1095 rfl ?_
  refine w_iconst (v := 0) cd_203_1096 (by decide) ?_
  refine w_laload cd_203_1097 h9 h10 h11 ?_
  refine w_lload cd_203_1098 rfl ?_
  refine w_lcmp cd_203_1100 ?_
  exact w_ifeq cd_203_1101 (by decide) h12 h13
theorem b_203_1104 {d : Nat} {Q : (Option Value ⊕ Nat) → mi_H → Prop} (n sl : Nat) (f : Nat → mi_C) {l1 : Nat} {l2 : Nat} {l3 : Nat} {l4 : Nat} {l5 : Int32} {l6 : Int32} {l7 : Int64} (h8 : Q (.inl (some (.int 0))) (n, sl, f)) : mi_W d 203 1104 [some (.ref l1), some (.ref l2), some (.ref l3), some (.ref l4), some (.int l5), some (.int l6), some (.long l7), none] [] (n, sl, f) Q := by
  refine w_iconst (v := 0) cd_203_1104 (by decide) ?_
  exact w_ireturn_z cd_203_1105 (by decide +kernel) (by decide) h8
theorem b_203_1106 {d : Nat} {Q : (Option Value ⊕ Nat) → mi_H → Prop} (n sl : Nat) (f : Nat → mi_C) {l1 : Nat} {l2 : Nat} {l3 : Nat} {l4 : Nat} {l5 : Int32} {l6 : Int32} {l7 : Int64} (h8 : mi_W d 203 1165 [some (.ref l1), some (.ref l2), some (.ref l3), some (.ref l4), some (.int l5), some (.int l6), some (.long l7), none] [] (n, sl, f) Q) : mi_W d 203 1106 [some (.ref l1), some (.ref l2), some (.ref l3), some (.ref l4), some (.int l5), some (.int l6), some (.long l7), none] [] (n, sl, f) Q := by
  exact w_goto cd_203_1106 (by decide) h8
theorem b_203_1109 {d : Nat} {Q : (Option Value ⊕ Nat) → mi_H → Prop} (n sl : Nat) (f : Nat → mi_C) {l1 : Nat} {l2 : Nat} {l3 : Nat} {l4 : Nat} {l5 : Int32} {o6 : Option Value} {o7 : Option Value} {o8 : Option Value} (m9 i9 : Nat) (g9 : Nat → Int32) (h10 : f l1 = .inl (0, m9, .inl g9)) (h11 : l1 < n ∨ l1 = mi_SC) (h12 : mi_ix (l5 + 1) m9 i9) (h13 : mi_W d 132 0 (mi_en 4 [.ref l2, .int (g9 i9), .ref l4]) [] (n, sl, f) (mi_Kc d 203 1117 [some (.ref l1), some (.ref l2), some (.ref l3), some (.ref l4), some (.int l5), o6, o7, o8] [] Q)) : mi_W (d + 1) 203 1109 [some (.ref l1), some (.ref l2), some (.ref l3), some (.ref l4), some (.int l5), o6, o7, o8] [] (n, sl, f) Q := by
  refine w_aload_n cd_203_1109 rfl ?_
  refine w_aload_n cd_203_1110 rfl ?_
  refine w_iload cd_203_1111 rfl ?_
  refine w_iconst (v := 1) cd_203_1113 (by decide) ?_
  refine w_iadd cd_203_1114 ?_
  refine w_iaload cd_203_1115 h10 h11 h12 ?_
  refine w_aload_n cd_203_1116 rfl ?_
  exact w_invokestatic cd_203_1117 (show mt_m 18 125 = some (132, 4) by decide +kernel) (by decide) (rest := []) rfl (as := [.ref l2, .int (g9 i9), .ref l4]) rfl ⟨Nat.le_of_ble_eq_true rfl, Nat.le_of_ble_eq_true rfl, Nat.le_of_ble_eq_true rfl⟩ h13
theorem b_203_1120 {d : Nat} {Q : (Option Value ⊕ Nat) → mi_H → Prop} (n sl : Nat) (f : Nat → mi_C) {l1 : Nat} {l2 : Nat} {l3 : Nat} {l4 : Nat} {l5 : Int32} {o6 : Option Value} {o7 : Option Value} {o8 : Option Value} {s9 : Int32} (m10 i10 : Nat) (g10 : Nat → Int32) {fs14 : List Value} (h11 : f l1 = .inl (0, m10, .inl g10)) (h12 : l1 < n ∨ l1 = mi_SC) (h13 : mi_ix (l5 + 1) m10 i10) (h15 : f l3 = .inr (12, fs14)) (h16 : l3 < n) (h17 : mi_W d 202 0 (mi_en 2 [.ref l3, .int (g10 i10)]) [] (n, sl, f) (mi_Kc d 203 1129 [some (.ref l1), some (.ref l2), some (.ref l3), some (.ref l4), some (.int l5), some (.int s9), o7, o8] [] Q)) : mi_W (d + 1) 203 1120 [some (.ref l1), some (.ref l2), some (.ref l3), some (.ref l4), some (.int l5), o6, o7, o8] [.int s9] (n, sl, f) Q := by
  refine w_istore (ls' := [some (.ref l1), some (.ref l2), some (.ref l3), some (.ref l4), some (.int l5), some (.int s9), o7, o8]) cd_203_1120 (Nat.le_of_ble_eq_true rfl) rfl ?_
  refine w_aload_n cd_203_1122 rfl ?_
  refine w_aload_n cd_203_1123 rfl ?_
  refine w_iload cd_203_1124 rfl ?_
  refine w_iconst (v := 1) cd_203_1126 (by decide) ?_
  refine w_iadd cd_203_1127 ?_
  refine w_iaload cd_203_1128 h11 h12 h13 ?_
  exact w_invokevirtual cd_203_1129 (show mt_m 18 127 = some (202, 0) by decide +kernel) (rest := []) rfl (as := [.ref l3, .int (g10 i10)]) rfl h15 (Or.inl h16) ⟨Nat.le_of_ble_eq_true rfl, Nat.le_of_ble_eq_true rfl, Nat.le_of_ble_eq_true rfl⟩ h17
theorem b_203_1132 {d : Nat} {Q : (Option Value ⊕ Nat) → mi_H → Prop} (n sl : Nat) (f : Nat → mi_C) {l1 : Nat} {l2 : Nat} {l3 : Nat} {l4 : Nat} {l5 : Int32} {l6 : Int32} {o7 : Option Value} {o8 : Option Value} {s9 : Int32} {fs10 : List Value} (h11 : f l3 = .inr (12, fs10)) (h12 : l3 < n) (h13 : mi_W d 137 0 (mi_en 1 [.ref l3]) [] (n, sl, f) (mi_Kc d 203 1135 [some (.ref l1), some (.ref l2), some (.ref l3), some (.ref l4), some (.int l5), some (.int l6), some (.int s9), o8] [] Q)) : mi_W (d + 1) 203 1132 [some (.ref l1), some (.ref l2), some (.ref l3), some (.ref l4), some (.int l5), some (.int l6), o7, o8] [.int s9] (n, sl, f) Q := by
  refine w_istore (ls' := [some (.ref l1), some (.ref l2), some (.ref l3), some (.ref l4), some (.int l5), some (.int l6), some (.int s9), o8]) cd_203_1132 (Nat.le_of_ble_eq_true rfl) rfl ?_
  refine w_aload_n cd_203_1134 rfl ?_
  exact w_invokevirtual cd_203_1135 (show mt_m 18 75 = some (137, 0) by decide +kernel) (rest := []) rfl (as := [.ref l3]) rfl h11 (Or.inl h12) ⟨Nat.le_of_ble_eq_true rfl, Nat.le_of_ble_eq_true rfl, Nat.le_of_ble_eq_true rfl⟩ h13
theorem b_203_1138 {d : Nat} {Q : (Option Value ⊕ Nat) → mi_H → Prop} (n sl : Nat) (f : Nat → mi_C) {l1 : Nat} {l2 : Nat} {l3 : Nat} {l4 : Nat} {l5 : Int32} {l6 : Int32} {l7 : Int32} {o8 : Option Value} {s9 : Int32} (h10 : s9 = l6 → mi_W d 203 1145 [some (.ref l1), some (.ref l2), some (.ref l3), some (.ref l4), some (.int l5), some (.int l6), some (.int l7), o8] [] (n, sl, f) Q) (h11 : ¬ (s9 = l6) → mi_W d 203 1143 [some (.ref l1), some (.ref l2), some (.ref l3), some (.ref l4), some (.int l5), some (.int l6), some (.int l7), o8] [] (n, sl, f) Q) : mi_W d 203 1138 [some (.ref l1), some (.ref l2), some (.ref l3), some (.ref l4), some (.int l5), some (.int l6), some (.int l7), o8] [.int s9] (n, sl, f) Q := by
  refine w_iload cd_203_1138 rfl ?_
  exact w_if_icmpeq cd_203_1140 (by decide) h10 h11
theorem b_203_1143 {d : Nat} {Q : (Option Value ⊕ Nat) → mi_H → Prop} (n sl : Nat) (f : Nat → mi_C) {l1 : Nat} {l2 : Nat} {l3 : Nat} {l4 : Nat} {l5 : Int32} {l6 : Int32} {l7 : Int32} {o8 : Option Value} (h9 : Q (.inl (some (.int 0))) (n, sl, f)) : mi_W d 203 1143 [some (.ref l1), some (.ref l2), some (.ref l3), some (.ref l4), some (.int l5), some (.int l6), some (.int l7), o8] [] (n, sl, f) Q := by
  refine w_iconst (v := 0) cd_203_1143 (by decide) ?_
  exact w_ireturn_z cd_203_1144 (by decide +kernel) (by decide) h9
theorem b_203_1145 {d : Nat} {Q : (Option Value ⊕ Nat) → mi_H → Prop} (n sl : Nat) (f : Nat → mi_C) {l1 : Nat} {l2 : Nat} {l3 : Nat} {l4 : Nat} {l5 : Int32} {l6 : Int32} {l7 : Int32} {o8 : Option Value} (h9 : ¬ l6 = (0 : Int32) → mi_W d 203 1162 [some (.ref l1), some (.ref l2), some (.ref l3), some (.ref l4), some (.int l5), some (.int l6), some (.int l7), o8] [] (n, sl, f) Q) (h10 : ¬ (¬ l6 = (0 : Int32)) → mi_W d 203 1150 [some (.ref l1), some (.ref l2), some (.ref l3), some (.ref l4), some (.int l5), some (.int l6), some (.int l7), o8] [] (n, sl, f) Q) : mi_W d 203 1145 [some (.ref l1), some (.ref l2), some (.ref l3), some (.ref l4), some (.int l5), some (.int l6), some (.int l7), o8] [] (n, sl, f) Q := by
  refine w_iload cd_203_1145 rfl ?_
  exact w_ifne cd_203_1147 (by decide) h9 h10
theorem b_203_1150 {d : Nat} {Q : (Option Value ⊕ Nat) → mi_H → Prop} (n sl : Nat) (f : Nat → mi_C) {l1 : Nat} {l2 : Nat} {l3 : Nat} {l4 : Nat} {l5 : Int32} {l6 : Int32} {l7 : Int32} {o8 : Option Value} (m9 i9 : Nat) (g9 : Nat → Int64) (h10 : f l4 = .inl (3, m9, .inr (.inl g9))) (h11 : l4 < n) (h12 : mi_ix 0 m9 i9) (h13 : (lg_cmp (g9 i9) ((l7 : Int32).toInt64)) = (0 : Int32) → mi_W d 203 1162 [some (.ref l1), some (.ref l2), some (.ref l3), some (.ref l4), some (.int l5), some (.int l6), some (.int l7), o8] [] (n, sl, f) Q) (h14 : ¬ ((lg_cmp (g9 i9) ((l7 : Int32).toInt64)) = (0 : Int32)) → mi_W d 203 1160 [some (.ref l1), some (.ref l2), some (.ref l3), some (.ref l4), some (.int l5), some (.int l6), some (.int l7), o8] [] (n, sl, f) Q) : mi_W d 203 1150 [some (.ref l1), some (.ref l2), some (.ref l3), some (.ref l4), some (.int l5), some (.int l6), some (.int l7), o8] [] (n, sl, f) Q := by
  refine w_aload_n cd_203_1150 rfl ?_
  refine w_iconst (v := 0) cd_203_1151 (by decide) ?_
  refine w_laload cd_203_1152 h10 h11 h12 ?_
  refine w_iload cd_203_1153 rfl ?_
  refine w_i2l cd_203_1155 ?_
  refine w_lcmp cd_203_1156 ?_
  exact w_ifeq cd_203_1157 (by decide) h13 h14
theorem b_203_1160 {d : Nat} {Q : (Option Value ⊕ Nat) → mi_H → Prop} (n sl : Nat) (f : Nat → mi_C) {l1 : Nat} {l2 : Nat} {l3 : Nat} {l4 : Nat} {l5 : Int32} {l6 : Int32} {l7 : Int32} {o8 : Option Value} (h9 : Q (.inl (some (.int 0))) (n, sl, f)) : mi_W d 203 1160 [some (.ref l1), some (.ref l2), some (.ref l3), some (.ref l4), some (.int l5), some (.int l6), some (.int l7), o8] [] (n, sl, f) Q := by
  refine w_iconst (v := 0) cd_203_1160 (by decide) ?_
  exact w_ireturn_z cd_203_1161 (by decide +kernel) (by decide) h9
theorem b_203_1162 {d : Nat} {Q : (Option Value ⊕ Nat) → mi_H → Prop} (n sl : Nat) (f : Nat → mi_C) {l1 : Nat} {l2 : Nat} {l3 : Nat} {l4 : Nat} {l5 : Int32} {l6 : Int32} {l7 : Int32} {o8 : Option Value} (h9 : mi_W d 203 1165 [some (.ref l1), some (.ref l2), some (.ref l3), some (.ref l4), some (.int l5), some (.int l6), some (.int l7), o8] [] (n, sl, f) Q) : mi_W d 203 1162 [some (.ref l1), some (.ref l2), some (.ref l3), some (.ref l4), some (.int l5), some (.int l6), some (.int l7), o8] [] (n, sl, f) Q := by
  exact w_goto cd_203_1162 (by decide) h9
theorem b_203_1165 {d : Nat} {Q : (Option Value ⊕ Nat) → mi_H → Prop} (n sl : Nat) (f : Nat → mi_C) {l1 : Nat} {l2 : Nat} {l3 : Nat} {l4 : Nat} {l5 : Int32} {o6 : Option Value} {o7 : Option Value} {o8 : Option Value} (h9 : mi_W d 203 23 [some (.ref l1), some (.ref l2), some (.ref l3), some (.ref l4), some (.int (l5 + 6)), o6, o7, o8] [] (n, sl, f) Q) : mi_W d 203 1165 [some (.ref l1), some (.ref l2), some (.ref l3), some (.ref l4), some (.int l5), o6, o7, o8] [] (n, sl, f) Q := by
  refine w_iinc (v := 6) (ls' := [some (.ref l1), some (.ref l2), some (.ref l3), some (.ref l4), some (.int (l5 + 6)), o6, o7, o8]) cd_203_1165 rfl (by decide) rfl ?_
  exact w_goto cd_203_1168 (by decide) h9
theorem b_203_1171 {d : Nat} {Q : (Option Value ⊕ Nat) → mi_H → Prop} (n sl : Nat) (f : Nat → mi_C) {l1 : Nat} {l2 : Nat} {l3 : Nat} {l4 : Nat} {l5 : Int32} {o6 : Option Value} {o7 : Option Value} {o8 : Option Value} (h9 : Q (.inl (some (.int 1))) (n, sl, f)) : mi_W d 203 1171 [some (.ref l1), some (.ref l2), some (.ref l3), some (.ref l4), some (.int l5), o6, o7, o8] [] (n, sl, f) Q := by
  refine w_iconst (v := 1) cd_203_1171 (by decide) ?_
  exact w_ireturn_z cd_203_1172 (by decide +kernel) (by decide) h9
end
