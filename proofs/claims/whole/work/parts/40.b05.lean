section
/-! MarloweHostModel.when(I)Z -/
theorem cd_167_0 : mt_cd 167 0 = some (.aload_n 0) := by decide +kernel
theorem cd_167_1 : mt_cd 167 1 = some (.aload_n 0) := by decide +kernel
theorem cd_167_2 : mt_cd 167 2 = some (.ldc_w 409) := by decide +kernel
theorem cd_167_5 : mt_cd 167 5 = some (.invokevirtual 375) := by decide +kernel
theorem cd_167_8 : mt_cd 167 8 = some (.invokevirtual 383) := by decide +kernel
theorem cd_167_11 : mt_cd 167 11 = some (.ifCond .ne 5) := by decide +kernel
theorem cd_167_14 : mt_cd 167 14 = some (.iconst 0) := by decide +kernel
theorem cd_167_15 : mt_cd 167 15 = some (.ireturn) := by decide +kernel
theorem cd_167_16 : mt_cd 167 16 = some (.aload_n 0) := by decide +kernel
theorem cd_167_17 : mt_cd 167 17 = some (.getfield 92) := by decide +kernel
theorem cd_167_20 : mt_cd 167 20 = some (.iload_n 1) := by decide +kernel
theorem cd_167_21 : mt_cd 167 21 = some (.iconst (-1)) := by decide +kernel
theorem cd_167_22 : mt_cd 167 22 = some (.iastore) := by decide +kernel
theorem cd_167_23 : mt_cd 167 23 = some (.iconst (-1)) := by decide +kernel
theorem cd_167_24 : mt_cd 167 24 = some (.istore_n 2) := by decide +kernel
theorem cd_167_25 : mt_cd 167 25 = some (.iconst 0) := by decide +kernel
theorem cd_167_26 : mt_cd 167 26 = some (.istore_n 3) := by decide +kernel
theorem cd_167_27 : mt_cd 167 27 = some (.aload_n 0) := by decide +kernel
theorem cd_167_28 : mt_cd 167 28 = some (.ldc_w 411) := by decide +kernel
theorem cd_167_31 : mt_cd 167 31 = some (.invokevirtual 375) := by decide +kernel
theorem cd_167_34 : mt_cd 167 34 = some (.ifCond .ne 154) := by decide +kernel
theorem cd_167_37 : mt_cd 167 37 = some (.aload_n 0) := by decide +kernel
theorem cd_167_38 : mt_cd 167 38 = some (.ldc 41) := by decide +kernel
theorem cd_167_40 : mt_cd 167 40 = some (.invokevirtual 387) := by decide +kernel
theorem cd_167_43 : mt_cd 167 43 = some (.ifCond .eq 8) := by decide +kernel
theorem cd_167_46 : mt_cd 167 46 = some (.bipush 7) := by decide +kernel
theorem cd_167_48 : mt_cd 167 48 = some (.goto 32) := by decide +kernel
theorem cd_167_51 : mt_cd 167 51 = some (.aload_n 0) := by decide +kernel
theorem cd_167_52 : mt_cd 167 52 = some (.ldc 43) := by decide +kernel
theorem cd_167_54 : mt_cd 167 54 = some (.invokevirtual 387) := by decide +kernel
theorem cd_167_57 : mt_cd 167 57 = some (.ifCond .eq 8) := by decide +kernel
theorem cd_167_60 : mt_cd 167 60 = some (.bipush 8) := by decide +kernel
theorem cd_167_62 : mt_cd 167 62 = some (.goto 18) := by decide +kernel
theorem cd_167_65 : mt_cd 167 65 = some (.aload_n 0) := by decide +kernel
theorem cd_167_66 : mt_cd 167 66 = some (.ldc 45) := by decide +kernel
theorem cd_167_68 : mt_cd 167 68 = some (.invokevirtual 387) := by decide +kernel
theorem cd_167_71 : mt_cd 167 71 = some (.ifCond .eq 8) := by decide +kernel
theorem cd_167_74 : mt_cd 167 74 = some (.bipush 9) := by decide +kernel
theorem cd_167_76 : mt_cd 167 76 = some (.goto 4) := by decide +kernel
theorem cd_167_79 : mt_cd 167 79 = some (.iconst (-1)) := by decide +kernel
theorem cd_167_80 : mt_cd 167 80 = some (.istore 4) := by decide +kernel
theorem cd_167_82 : mt_cd 167 82 = some (.iload 4) := by decide +kernel
theorem cd_167_84 : mt_cd 167 84 = some (.ifCond .lt 12) := by decide +kernel
theorem cd_167_87 : mt_cd 167 87 = some (.iload_n 3) := by decide +kernel
theorem cd_167_88 : mt_cd 167 88 = some (.iinc 3 1) := by decide +kernel
theorem cd_167_91 : mt_cd 167 91 = some (.bipush 8) := by decide +kernel
theorem cd_167_93 : mt_cd 167 93 = some (.if_icmp .ne 12) := by decide +kernel
theorem cd_167_96 : mt_cd 167 96 = some (.aload_n 0) := by decide +kernel
theorem cd_167_97 : mt_cd 167 97 = some (.aload_n 0) := by decide +kernel
theorem cd_167_98 : mt_cd 167 98 = some (.getfield 299) := by decide +kernel
theorem cd_167_101 : mt_cd 167 101 = some (.invokevirtual 272) := by decide +kernel
theorem cd_167_104 : mt_cd 167 104 = some (.ireturn) := by decide +kernel
theorem cd_167_105 : mt_cd 167 105 = some (.aload_n 0) := by decide +kernel
theorem cd_167_106 : mt_cd 167 106 = some (.iload 4) := by decide +kernel
theorem cd_167_108 : mt_cd 167 108 = some (.invokevirtual 390) := by decide +kernel
theorem cd_167_111 : mt_cd 167 111 = some (.istore 5) := by decide +kernel
theorem cd_167_113 : mt_cd 167 113 = some (.iload 5) := by decide +kernel
theorem cd_167_115 : mt_cd 167 115 = some (.ifCond .lt 34) := by decide +kernel
theorem cd_167_118 : mt_cd 167 118 = some (.aload_n 0) := by decide +kernel
theorem cd_167_119 : mt_cd 167 119 = some (.invokevirtual 333) := by decide +kernel
theorem cd_167_122 : mt_cd 167 122 = some (.ifCond .eq 27) := by decide +kernel
theorem cd_167_125 : mt_cd 167 125 = some (.aload_n 0) := by decide +kernel
theorem cd_167_126 : mt_cd 167 126 = some (.iload 5) := by decide +kernel
theorem cd_167_128 : mt_cd 167 128 = some (.invokevirtual 413) := by decide +kernel
theorem cd_167_131 : mt_cd 167 131 = some (.ifCond .eq 18) := by decide +kernel
theorem cd_167_134 : mt_cd 167 134 = some (.aload_n 0) := by decide +kernel
theorem cd_167_135 : mt_cd 167 135 = some (.getfield 98) := by decide +kernel
theorem cd_167_138 : mt_cd 167 138 = some (.iload 5) := by decide +kernel
theorem cd_167_140 : mt_cd 167 140 = some (.aload_n 0) := by decide +kernel
theorem cd_167_141 : mt_cd 167 141 = some (.invokevirtual 355) := by decide +kernel
theorem cd_167_144 : mt_cd 167 144 = some (.dup_x2) := by decide +kernel
theorem cd_167_145 : mt_cd 167 145 = some (.iastore) := by decide +kernel
theorem cd_167_146 : mt_cd 167 146 = some (.ifCond .ge 5) := by decide +kernel
theorem cd_167_149 : mt_cd 167 149 = some (.iconst 0) := by decide +kernel
theorem cd_167_150 : mt_cd 167 150 = some (.ireturn) := by decide +kernel
theorem cd_167_151 : mt_cd 167 151 = some (.iload_n 2) := by decide +kernel
theorem cd_167_152 : mt_cd 167 152 = some (.ifCond .ge 14) := by decide +kernel
theorem cd_167_155 : mt_cd 167 155 = some (.aload_n 0) := by decide +kernel
theorem cd_167_156 : mt_cd 167 156 = some (.getfield 92) := by decide +kernel
theorem cd_167_159 : mt_cd 167 159 = some (.iload_n 1) := by decide +kernel
theorem cd_167_160 : mt_cd 167 160 = some (.iload 5) := by decide +kernel
theorem cd_167_162 : mt_cd 167 162 = some (.iastore) := by decide +kernel
theorem cd_167_163 : mt_cd 167 163 = some (.goto 11) := by decide +kernel
theorem cd_167_166 : mt_cd 167 166 = some (.aload_n 0) := by decide +kernel
theorem cd_167_167 : mt_cd 167 167 = some (.getfield 138) := by decide +kernel
theorem cd_167_170 : mt_cd 167 170 = some (.iload_n 2) := by decide +kernel
theorem cd_167_171 : mt_cd 167 171 = some (.iload 5) := by decide +kernel
theorem cd_167_173 : mt_cd 167 173 = some (.iastore) := by decide +kernel
theorem cd_167_174 : mt_cd 167 174 = some (.aload_n 0) := by decide +kernel
theorem cd_167_175 : mt_cd 167 175 = some (.getfield 138) := by decide +kernel
theorem cd_167_178 : mt_cd 167 178 = some (.iload 5) := by decide +kernel
theorem cd_167_180 : mt_cd 167 180 = some (.iconst (-1)) := by decide +kernel
theorem cd_167_181 : mt_cd 167 181 = some (.iastore) := by decide +kernel
theorem cd_167_182 : mt_cd 167 182 = some (.iload 5) := by decide +kernel
theorem cd_167_184 : mt_cd 167 184 = some (.istore_n 2) := by decide +kernel
theorem cd_167_185 : mt_cd 167 185 = some (.goto (-158)) := by decide +kernel
theorem cd_167_188 : mt_cd 167 188 = some (.aload_n 0) := by decide +kernel
theorem cd_167_189 : mt_cd 167 189 = some (.invokevirtual 333) := by decide +kernel
theorem cd_167_192 : mt_cd 167 192 = some (.ifCond .ne 5) := by decide +kernel
theorem cd_167_195 : mt_cd 167 195 = some (.iconst 0) := by decide +kernel
theorem cd_167_196 : mt_cd 167 196 = some (.ireturn) := by decide +kernel
theorem cd_167_197 : mt_cd 167 197 = some (.aload_n 0) := by decide +kernel
theorem cd_167_198 : mt_cd 167 198 = some (.getfield 310) := by decide +kernel
theorem cd_167_201 : mt_cd 167 201 = some (.iconst 2) := by decide +kernel
theorem cd_167_202 : mt_cd 167 202 = some (.if_icmp .eq 12) := by decide +kernel
theorem cd_167_205 : mt_cd 167 205 = some (.aload_n 0) := by decide +kernel
theorem cd_167_206 : mt_cd 167 206 = some (.aload_n 0) := by decide +kernel
theorem cd_167_207 : mt_cd 167 207 = some (.getfield 299) := by decide +kernel
theorem cd_167_210 : mt_cd 167 210 = some (.invokevirtual 272) := by decide +kernel
theorem cd_167_213 : mt_cd 167 213 = some (.ireturn) := by decide +kernel
theorem cd_167_214 : mt_cd 167 214 = some (.aload_n 0) := by decide +kernel
theorem cd_167_215 : mt_cd 167 215 = some (.getfield 101) := by decide +kernel
theorem cd_167_218 : mt_cd 167 218 = some (.iload_n 1) := by decide +kernel
theorem cd_167_219 : mt_cd 167 219 = some (.aload_n 0) := by decide +kernel
theorem cd_167_220 : mt_cd 167 220 = some (.getfield 327) := by decide +kernel
theorem cd_167_223 : mt_cd 167 223 = some (.lastore) := by decide +kernel
theorem cd_167_224 : mt_cd 167 224 = some (.aload_n 0) := by decide +kernel
theorem cd_167_225 : mt_cd 167 225 = some (.invokevirtual 333) := by decide +kernel
theorem cd_167_228 : mt_cd 167 228 = some (.ifCond .eq 21) := by decide +kernel
theorem cd_167_231 : mt_cd 167 231 = some (.aload_n 0) := by decide +kernel
theorem cd_167_232 : mt_cd 167 232 = some (.getfield 98) := by decide +kernel
theorem cd_167_235 : mt_cd 167 235 = some (.iload_n 1) := by decide +kernel
theorem cd_167_236 : mt_cd 167 236 = some (.aload_n 0) := by decide +kernel
theorem cd_167_237 : mt_cd 167 237 = some (.invokevirtual 355) := by decide +kernel
theorem cd_167_240 : mt_cd 167 240 = some (.dup_x2) := by decide +kernel
theorem cd_167_241 : mt_cd 167 241 = some (.iastore) := by decide +kernel
theorem cd_167_242 : mt_cd 167 242 = some (.ifCond .lt 7) := by decide +kernel
theorem cd_167_245 : mt_cd 167 245 = some (.iconst 1) := by decide +kernel
theorem cd_167_246 : mt_cd 167 246 = some (.goto 4) := by decide +kernel
theorem cd_167_249 : mt_cd 167 249 = some (.iconst 0) := by decide +kernel
theorem cd_167_250 : mt_cd 167 250 = some (.ireturn) := by decide +kernel
theorem b_167_0 {d : Nat} {Q : (Option Value ⊕ Nat) → mi_H → Prop} (n sl : Nat) (f : Nat → mi_C) {l1 : Nat} {l2 : Int32} {o3 : Option Value} {o4 : Option Value} {o5 : Option Value} {o6 : Option Value} {fs7 : List Value} (h8 : f l1 = .inr (12, fs7)) (h9 : l1 < n) (h10 : mi_W d 152 0 (mi_en 2 [.ref l1, .ref (mi_SC + 1 + 2 * 51)]) [] (n, sl, f) (mi_Kc d 167 5 [some (.ref l1), some (.int l2), o3, o4, o5, o6] [.ref l1] Q)) : mi_W (d + 1) 167 0 [some (.ref l1), some (.int l2), o3, o4, o5, o6] [] (n, sl, f) Q := by
  refine w_aload_n cd_167_0 rfl ?_
  refine w_aload_n cd_167_1 rfl ?_
  refine w_ldc_w (n := 51) cd_167_2 (by decide +kernel) ?_
  exact w_invokevirtual cd_167_5 (show mt_m 12 375 = some (152, 0) by decide +kernel) (rest := [.ref l1]) rfl (as := [.ref l1, .ref (mi_SC + 1 + 2 * 51)]) rfl h8 (Or.inl h9) ⟨Nat.le_of_ble_eq_true rfl, Nat.le_of_ble_eq_true rfl, Nat.le_of_ble_eq_true rfl⟩ h10
theorem b_167_8 {d : Nat} {Q : (Option Value ⊕ Nat) → mi_H → Prop} (n sl : Nat) (f : Nat → mi_C) {l1 : Nat} {l2 : Int32} {o3 : Option Value} {o4 : Option Value} {o5 : Option Value} {o6 : Option Value} {s7 : Int32} {s8 : Nat} {fs9 : List Value} (h10 : f s8 = .inr (12, fs9)) (h11 : s8 < n) (h12 : mi_W d 154 0 (mi_en 2 [.ref s8, .int s7]) [] (n, sl, f) (mi_Kc d 167 8 [some (.ref l1), some (.int l2), o3, o4, o5, o6] [] Q)) : mi_W (d + 1) 167 8 [some (.ref l1), some (.int l2), o3, o4, o5, o6] [.int s7, .ref s8] (n, sl, f) Q := by
  exact w_invokevirtual cd_167_8 (show mt_m 12 383 = some (154, 0) by decide +kernel) (rest := []) rfl (as := [.ref s8, .int s7]) rfl h10 (Or.inl h11) ⟨Nat.le_of_ble_eq_true rfl, Nat.le_of_ble_eq_true rfl, Nat.le_of_ble_eq_true rfl⟩ h12
theorem b_167_11 {d : Nat} {Q : (Option Value ⊕ Nat) → mi_H → Prop} (n sl : Nat) (f : Nat → mi_C) {l1 : Nat} {l2 : Int32} {o3 : Option Value} {o4 : Option Value} {o5 : Option Value} {o6 : Option Value} {s7 : Int32} (h8 : ¬ s7 = (0 : Int32) → mi_W d 167 16 [some (.ref l1), some (.int l2), o3, o4, o5, o6] [] (n, sl, f) Q) (h9 : ¬ (¬ s7 = (0 : Int32)) → mi_W d 167 14 [some (.ref l1), some (.int l2), o3, o4, o5, o6] [] (n, sl, f) Q) : mi_W d 167 11 [some (.ref l1), some (.int l2), o3, o4, o5, o6] [.int s7] (n, sl, f) Q := by
  exact w_ifne cd_167_11 (by decide) h8 h9
theorem b_167_14 {d : Nat} {Q : (Option Value ⊕ Nat) → mi_H → Prop} (n sl : Nat) (f : Nat → mi_C) {l1 : Nat} {l2 : Int32} {o3 : Option Value} {o4 : Option Value} {o5 : Option Value} {o6 : Option Value} (h7 : Q (.inl (some (.int 0))) (n, sl, f)) : mi_W d 167 14 [some (.ref l1), some (.int l2), o3, o4, o5, o6] [] (n, sl, f) Q := by
  refine w_iconst (v := 0) cd_167_14 (by decide) ?_
  exact w_ireturn_z cd_167_15 (by decide +kernel) (by decide) h7
theorem b_167_16 {d : Nat} {Q : (Option Value ⊕ Nat) → mi_H → Prop} (n sl : Nat) (f : Nat → mi_C) {l1 : Nat} {l2 : Int32} {o3 : Option Value} {o4 : Option Value} {o5 : Option Value} {o6 : Option Value} {fs7 : List Value} {x10 : Nat} (m12 i12 : Nat) (g12 : Nat → Int32) (h8 : f l1 = .inr (12, fs7)) (h9 : l1 < n) (h11 : fs7[17]? = some (.ref x10)) (h13 : f x10 = .inl (0, m12, .inl g12)) (h14 : x10 < n) (h15 : mi_ix l2 m12 i12) (h16 : mi_W d 167 27 [some (.ref l1), some (.int l2), some (.int (-1)), some (.int 0), o5, o6] [] (n, sl, (va_up f x10 (.inl (0, m12, .inl (upd g12 i12 ((-1))))))) Q) : mi_W d 167 16 [some (.ref l1), some (.int l2), o3, o4, o5, o6] [] (n, sl, f) Q := by
  refine w_aload_n cd_167_16 rfl ?_
  refine w_getfield cd_167_17 (show mt_f 12 92 = some (12, 17) by decide +kernel) h8 h9 h11 ?_
  refine w_iload_n cd_167_20 rfl ?_
  refine w_iconst (v := (-1)) cd_167_21 (by decide) ?_
  refine w_iastore cd_167_22 h13 h14 h15 ?_
  refine w_iconst (v := (-1)) cd_167_23 (by decide) ?_
  refine w_istore_n (ls' := [some (.ref l1), some (.int l2), some (.int (-1)), o4, o5, o6]) cd_167_24 (Nat.le_of_ble_eq_true rfl) rfl ?_
  refine w_iconst (v := 0) cd_167_25 (by decide) ?_
  refine w_istore_n (ls' := [some (.ref l1), some (.int l2), some (.int (-1)), some (.int 0), o5, o6]) cd_167_26 (Nat.le_of_ble_eq_true rfl) rfl ?_
  exact h16
theorem b_167_27 {d : Nat} {Q : (Option Value ⊕ Nat) → mi_H → Prop} (n sl : Nat) (f : Nat → mi_C) {l1 : Nat} {l2 : Int32} {l3 : Int32} {l4 : Int32} {o5 : Option Value} {o6 : Option Value} {fs7 : List Value} (h8 : f l1 = .inr (12, fs7)) (h9 : l1 < n) (h10 : mi_W d 152 0 (mi_en 2 [.ref l1, .ref (mi_SC + 1 + 2 * 52)]) [] (n, sl, f) (mi_Kc d 167 31 [some (.ref l1), some (.int l2), some (.int l3), some (.int l4), o5, o6] [] Q)) : mi_W (d + 1) 167 27 [some (.ref l1), some (.int l2), some (.int l3), some (.int l4), o5, o6] [] (n, sl, f) Q := by
  refine w_aload_n cd_167_27 rfl ?_
  refine w_ldc_w (n := 52) cd_167_28 (by decide +kernel) ?_
  exact w_invokevirtual cd_167_31 (show mt_m 12 375 = some (152, 0) by decide +kernel) (rest := []) rfl (as := [.ref l1, .ref (mi_SC + 1 + 2 * 52)]) rfl h8 (Or.inl h9) ⟨Nat.le_of_ble_eq_true rfl, Nat.le_of_ble_eq_true rfl, Nat.le_of_ble_eq_true rfl⟩ h10
theorem b_167_34 {d : Nat} {Q : (Option Value ⊕ Nat) → mi_H → Prop} (n sl : Nat) (f : Nat → mi_C) {l1 : Nat} {l2 : Int32} {l3 : Int32} {l4 : Int32} {o5 : Option Value} {o6 : Option Value} {s7 : Int32} (h8 : ¬ s7 = (0 : Int32) → mi_W d 167 188 [some (.ref l1), some (.int l2), some (.int l3), some (.int l4), o5, o6] [] (n, sl, f) Q) (h9 : ¬ (¬ s7 = (0 : Int32)) → mi_W d 167 37 [some (.ref l1), some (.int l2), some (.int l3), some (.int l4), o5, o6] [] (n, sl, f) Q) : mi_W d 167 34 [some (.ref l1), some (.int l2), some (.int l3), some (.int l4), o5, o6] [.int s7] (n, sl, f) Q := by
  exact w_ifne cd_167_34 (by decide) h8 h9
theorem b_167_37 {d : Nat} {Q : (Option Value ⊕ Nat) → mi_H → Prop} (n sl : Nat) (f : Nat → mi_C) {l1 : Nat} {l2 : Int32} {l3 : Int32} {l4 : Int32} {o5 : Option Value} {o6 : Option Value} {fs7 : List Value} (h8 : f l1 = .inr (12, fs7)) (h9 : l1 < n) (h10 : mi_W d 155 0 (mi_en 2 [.ref l1, .ref (mi_SC + 1 + 2 * 24)]) [] (n, sl, f) (mi_Kc d 167 40 [some (.ref l1), some (.int l2), some (.int l3), some (.int l4), o5, o6] [] Q)) : mi_W (d + 1) 167 37 [some (.ref l1), some (.int l2), some (.int l3), some (.int l4), o5, o6] [] (n, sl, f) Q := by
  refine w_aload_n cd_167_37 rfl ?_
  refine w_ldc (n := 24) cd_167_38 (by decide +kernel) ?_
  exact w_invokevirtual cd_167_40 (show mt_m 12 387 = some (155, 0) by decide +kernel) (rest := []) rfl (as := [.ref l1, .ref (mi_SC + 1 + 2 * 24)]) rfl h8 (Or.inl h9) ⟨Nat.le_of_ble_eq_true rfl, Nat.le_of_ble_eq_true rfl, Nat.le_of_ble_eq_true rfl⟩ h10
theorem b_167_43 {d : Nat} {Q : (Option Value ⊕ Nat) → mi_H → Prop} (n sl : Nat) (f : Nat → mi_C) {l1 : Nat} {l2 : Int32} {l3 : Int32} {l4 : Int32} {o5 : Option Value} {o6 : Option Value} {s7 : Int32} (h8 : s7 = (0 : Int32) → mi_W d 167 51 [some (.ref l1), some (.int l2), some (.int l3), some (.int l4), o5, o6] [] (n, sl, f) Q) (h9 : ¬ (s7 = (0 : Int32)) → mi_W d 167 46 [some (.ref l1), some (.int l2), some (.int l3), some (.int l4), o5, o6] [] (n, sl, f) Q) : mi_W d 167 43 [some (.ref l1), some (.int l2), some (.int l3), some (.int l4), o5, o6] [.int s7] (n, sl, f) Q := by
  exact w_ifeq cd_167_43 (by decide) h8 h9
theorem b_167_46 {d : Nat} {Q : (Option Value ⊕ Nat) → mi_H → Prop} (n sl : Nat) (f : Nat → mi_C) {l1 : Nat} {l2 : Int32} {l3 : Int32} {l4 : Int32} {o5 : Option Value} {o6 : Option Value} (h7 : mi_W d 167 80 [some (.ref l1), some (.int l2), some (.int l3), some (.int l4), o5, o6] [.int 7] (n, sl, f) Q) : mi_W d 167 46 [some (.ref l1), some (.int l2), some (.int l3), some (.int l4), o5, o6] [] (n, sl, f) Q := by
  refine w_bipush (v := 7) cd_167_46 (by decide) ?_
  exact w_goto cd_167_48 (by decide) h7
theorem b_167_51 {d : Nat} {Q : (Option Value ⊕ Nat) → mi_H → Prop} (n sl : Nat) (f : Nat → mi_C) {l1 : Nat} {l2 : Int32} {l3 : Int32} {l4 : Int32} {o5 : Option Value} {o6 : Option Value} {fs7 : List Value} (h8 : f l1 = .inr (12, fs7)) (h9 : l1 < n) (h10 : mi_W d 155 0 (mi_en 2 [.ref l1, .ref (mi_SC + 1 + 2 * 25)]) [] (n, sl, f) (mi_Kc d 167 54 [some (.ref l1), some (.int l2), some (.int l3), some (.int l4), o5, o6] [] Q)) : mi_W (d + 1) 167 51 [some (.ref l1), some (.int l2), some (.int l3), some (.int l4), o5, o6] [] (n, sl, f) Q := by
  refine w_aload_n cd_167_51 rfl ?_
  refine w_ldc (n := 25) cd_167_52 (by decide +kernel) ?_
  exact w_invokevirtual cd_167_54 (show mt_m 12 387 = some (155, 0) by decide +kernel) (rest := []) rfl (as := [.ref l1, .ref (mi_SC + 1 + 2 * 25)]) rfl h8 (Or.inl h9) ⟨Nat.le_of_ble_eq_true rfl, Nat.le_of_ble_eq_true rfl, Nat.le_of_ble_eq_true rfl⟩ h10
theorem b_167_57 {d : Nat} {Q : (Option Value ⊕ Nat) → mi_H → Prop} (n sl : Nat) (f : Nat → mi_C) {l1 : Nat} {l2 : Int32} {l3 : Int32} {l4 : Int32} {o5 : Option Value} {o6 : Option Value} {s7 : Int32} (h8 : s7 = (0 : Int32) → mi_W d 167 65 [some (.ref l1), some (.int l2), some (.int l3), some (.int l4), o5, o6] [] (n, sl, f) Q) (h9 : ¬ (s7 = (0 : Int32)) → mi_W d 167 60 [some (.ref l1), some (.int l2), some (.int l3), some (.int l4), o5, o6] [] (n, sl, f) Q) : mi_W d 167 57 [some (.ref l1), some (.int l2), some (.int l3), some (.int l4), o5, o6] [.int s7] (n, sl, f) Q := by
  exact w_ifeq cd_167_57 (by decide) h8 h9
theorem b_167_60 {d : Nat} {Q : (Option Value ⊕ Nat) → mi_H → Prop} (n sl : Nat) (f : Nat → mi_C) {l1 : Nat} {l2 : Int32} {l3 : Int32} {l4 : Int32} {o5 : Option Value} {o6 : Option Value} (h7 : mi_W d 167 80 [some (.ref l1), some (.int l2), some (.int l3), some (.int l4), o5, o6] [.int 8] (n, sl, f) Q) : mi_W d 167 60 [some (.ref l1), some (.int l2), some (.int l3), some (.int l4), o5, o6] [] (n, sl, f) Q := by
  refine w_bipush (v := 8) cd_167_60 (by decide) ?_
  exact w_goto cd_167_62 (by decide) h7
theorem b_167_65 {d : Nat} {Q : (Option Value ⊕ Nat) → mi_H → Prop} (n sl : Nat) (f : Nat → mi_C) {l1 : Nat} {l2 : Int32} {l3 : Int32} {l4 : Int32} {o5 : Option Value} {o6 : Option Value} {fs7 : List Value} (h8 : f l1 = .inr (12, fs7)) (h9 : l1 < n) (h10 : mi_W d 155 0 (mi_en 2 [.ref l1, .ref (mi_SC + 1 + 2 * 26)]) [] (n, sl, f) (mi_Kc d 167 68 [some (.ref l1), some (.int l2), some (.int l3), some (.int l4), o5, o6] [] Q)) : mi_W (d + 1) 167 65 [some (.ref l1), some (.int l2), some (.int l3), some (.int l4), o5, o6] [] (n, sl, f) Q := by
  refine w_aload_n cd_167_65 rfl ?_
  refine w_ldc (n := 26) cd_167_66 (by decide +kernel) ?_
  exact w_invokevirtual cd_167_68 (show mt_m 12 387 = some (155, 0) by decide +kernel) (rest := []) rfl (as := [.ref l1, .ref (mi_SC + 1 + 2 * 26)]) rfl h8 (Or.inl h9) ⟨Nat.le_of_ble_eq_true rfl, Nat.le_of_ble_eq_true rfl, Nat.le_of_ble_eq_true rfl⟩ h10
theorem b_167_71 {d : Nat} {Q : (Option Value ⊕ Nat) → mi_H → Prop} (n sl : Nat) (f : Nat → mi_C) {l1 : Nat} {l2 : Int32} {l3 : Int32} {l4 : Int32} {o5 : Option Value} {o6 : Option Value} {s7 : Int32} (h8 : s7 = (0 : Int32) → mi_W d 167 79 [some (.ref l1), some (.int l2), some (.int l3), some (.int l4), o5, o6] [] (n, sl, f) Q) (h9 : ¬ (s7 = (0 : Int32)) → mi_W d 167 74 [some (.ref l1), some (.int l2), some (.int l3), some (.int l4), o5, o6] [] (n, sl, f) Q) : mi_W d 167 71 [some (.ref l1), some (.int l2), some (.int l3), some (.int l4), o5, o6] [.int s7] (n, sl, f) Q := by
  exact w_ifeq cd_167_71 (by decide) h8 h9
theorem b_167_74 {d : Nat} {Q : (Option Value ⊕ Nat) → mi_H → Prop} (n sl : Nat) (f : Nat → mi_C) {l1 : Nat} {l2 : Int32} {l3 : Int32} {l4 : Int32} {o5 : Option Value} {o6 : Option Value} (h7 : mi_W d 167 80 [some (.ref l1), some (.int l2), some (.int l3), some (.int l4), o5, o6] [.int 9] (n, sl, f) Q) : mi_W d 167 74 [some (.ref l1), some (.int l2), some (.int l3), some (.int l4), o5, o6] [] (n, sl, f) Q := by
  refine w_bipush (v := 9) cd_167_74 (by decide) ?_
  exact w_goto cd_167_76 (by decide) h7
theorem b_167_79 {d : Nat} {Q : (Option Value ⊕ Nat) → mi_H → Prop} (n sl : Nat) (f : Nat → mi_C) {l1 : Nat} {l2 : Int32} {l3 : Int32} {l4 : Int32} {o5 : Option Value} {o6 : Option Value} (h7 : mi_W d 167 80 [some (.ref l1), some (.int l2), some (.int l3), some (.int l4), o5, o6] [.int (-1)] (n, sl, f) Q) : mi_W d 167 79 [some (.ref l1), some (.int l2), some (.int l3), some (.int l4), o5, o6] [] (n, sl, f) Q := by
  refine w_iconst (v := (-1)) cd_167_79 (by decide) ?_
  exact h7
theorem b_167_80 {d : Nat} {Q : (Option Value ⊕ Nat) → mi_H → Prop} (n sl : Nat) (f : Nat → mi_C) {l1 : Nat} {l2 : Int32} {l3 : Int32} {l4 : Int32} {o5 : Option Value} {o6 : Option Value} {s7 : Int32} (h8 : s7 < (0 : Int32) → mi_W d 167 96 [some (.ref l1), some (.int l2), some (.int l3), some (.int l4), some (.int s7), o6] [] (n, sl, f) Q) (h9 : ¬ (s7 < (0 : Int32)) → mi_W d 167 87 [some (.ref l1), some (.int l2), some (.int l3), some (.int l4), some (.int s7), o6] [] (n, sl, f) Q) : mi_W d 167 80 [some (.ref l1), some (.int l2), some (.int l3), some (.int l4), o5, o6] [.int s7] (n, sl, f) Q := by
  refine w_istore (ls' := [some (.ref l1), some (.int l2), some (.int l3), some (.int l4), some (.int s7), o6]) cd_167_80 (Nat.le_of_ble_eq_true rfl) rfl ?_
  refine w_iload cd_167_82 rfl ?_
  exact w_iflt cd_167_84 (by decide) h8 h9
theorem b_167_87 {d : Nat} {Q : (Option Value ⊕ Nat) → mi_H → Prop} (n sl : Nat) (f : Nat → mi_C) {l1 : Nat} {l2 : Int32} {l3 : Int32} {l4 : Int32} {l5 : Int32} {o6 : Option Value} (h7 : ¬ l4 = 8 → mi_W d 167 105 [some (.ref l1), some (.int l2), some (.int l3), some (.int (l4 + 1)), some (.int l5), o6] [] (n, sl, f) Q) (h8 : ¬ (¬ l4 = 8) → mi_W d 167 96 [some (.ref l1), some (.int l2), some (.int l3), some (.int (l4 + 1)), some (.int l5), o6] [] (n, sl, f) Q) : mi_W d 167 87 [some (.ref l1), some (.int l2), some (.int l3), some (.int l4), some (.int l5), o6] [] (n, sl, f) Q := by
  refine w_iload_n cd_167_87 rfl ?_
  refine w_iinc (v := 1) (ls' := [some (.ref l1), some (.int l2), some (.int l3), some (.int (l4 + 1)), some (.int l5), o6]) cd_167_88 rfl (by decide) rfl ?_
  refine w_bipush (v := 8) cd_167_91 (by decide) ?_
  exact w_if_icmpne cd_167_93 (by decide) h7 h8
theorem b_167_96 {d : Nat} {Q : (Option Value ⊕ Nat) → mi_H → Prop} (n sl : Nat) (f : Nat → mi_C) {l1 : Nat} {l2 : Int32} {l3 : Int32} {l4 : Int32} {l5 : Int32} {o6 : Option Value} {fs7 : List Value} {x10 : Int32} {fs12 : List Value} (h8 : f l1 = .inr (12, fs7)) (h9 : l1 < n) (h11 : fs7[9]? = some (.int x10)) (h13 : f l1 = .inr (12, fs12)) (h14 : l1 < n) (h15 : mi_W d 142 0 (mi_en 2 [.ref l1, .int x10]) [] (n, sl, f) (mi_Kc d 167 101 [some (.ref l1), some (.int l2), some (.int l3), some (.int l4), some (.int l5), o6] [] Q)) : mi_W (d + 1) 167 96 [some (.ref l1), some (.int l2), some (.int l3), some (.int l4), some (.int l5), o6] [] (n, sl, f) Q := by
  refine w_aload_n cd_167_96 rfl ?_
  refine w_aload_n cd_167_97 rfl ?_
  refine w_getfield cd_167_98 (show mt_f 12 299 = some (12, 9) by decide +kernel) h8 h9 h11 ?_
  exact w_invokevirtual cd_167_101 (show mt_m 12 272 = some (142, 0) by decide +kernel) (rest := []) rfl (as := [.ref l1, .int x10]) rfl h13 (Or.inl h14) ⟨Nat.le_of_ble_eq_true rfl, Nat.le_of_ble_eq_true rfl, Nat.le_of_ble_eq_true rfl⟩ h15
theorem b_167_104 {d : Nat} {Q : (Option Value ⊕ Nat) → mi_H → Prop} (n sl : Nat) (f : Nat → mi_C) {l1 : Nat} {l2 : Int32} {l3 : Int32} {l4 : Int32} {l5 : Int32} {o6 : Option Value} {s7 : Int32} (h8 : s7 = 0 ∨ s7 = 1) (h9 : Q (.inl (some (.int s7))) (n, sl, f)) : mi_W d 167 104 [some (.ref l1), some (.int l2), some (.int l3), some (.int l4), some (.int l5), o6] [.int s7] (n, sl, f) Q := by
  exact w_ireturn_z cd_167_104 (by decide +kernel) h8 h9
theorem b_167_105 {d : Nat} {Q : (Option Value ⊕ Nat) → mi_H → Prop} (n sl : Nat) (f : Nat → mi_C) {l1 : Nat} {l2 : Int32} {l3 : Int32} {l4 : Int32} {l5 : Int32} {o6 : Option Value} {fs7 : List Value} (h8 : f l1 = .inr (12, fs7)) (h9 : l1 < n) (h10 : mi_W d 156 0 (mi_en 2 [.ref l1, .int l5]) [] (n, sl, f) (mi_Kc d 167 108 [some (.ref l1), some (.int l2), some (.int l3), some (.int l4), some (.int l5), o6] [] Q)) : mi_W (d + 1) 167 105 [some (.ref l1), some (.int l2), some (.int l3), some (.int l4), some (.int l5), o6] [] (n, sl, f) Q := by
  refine w_aload_n cd_167_105 rfl ?_
  refine w_iload cd_167_106 rfl ?_
  exact w_invokevirtual cd_167_108 (show mt_m 12 390 = some (156, 0) by decide +kernel) (rest := []) rfl (as := [.ref l1, .int l5]) rfl h8 (Or.inl h9) ⟨Nat.le_of_ble_eq_true rfl, Nat.le_of_ble_eq_true rfl, Nat.le_of_ble_eq_true rfl⟩ h10
theorem b_167_111 {d : Nat} {Q : (Option Value ⊕ Nat) → mi_H → Prop} (n sl : Nat) (f : Nat → mi_C) {l1 : Nat} {l2 : Int32} {l3 : Int32} {l4 : Int32} {l5 : Int32} {o6 : Option Value} {s7 : Int32} (h8 : s7 < (0 : Int32) → mi_W d 167 149 [some (.ref l1), some (.int l2), some (.int l3), some (.int l4), some (.int l5), some (.int s7)] [] (n, sl, f) Q) (h9 : ¬ (s7 < (0 : Int32)) → mi_W d 167 118 [some (.ref l1), some (.int l2), some (.int l3), some (.int l4), some (.int l5), some (.int s7)] [] (n, sl, f) Q) : mi_W d 167 111 [some (.ref l1), some (.int l2), some (.int l3), some (.int l4), some (.int l5), o6] [.int s7] (n, sl, f) Q := by
  refine w_istore (ls' := [some (.ref l1), some (.int l2), some (.int l3), some (.int l4), some (.int l5), some (.int s7)]) cd_167_111 (Nat.le_of_ble_eq_true rfl) rfl ?_
  refine w_iload cd_167_113 rfl ?_
  exact w_iflt cd_167_115 (by decide) h8 h9
theorem b_167_118 {d : Nat} {Q : (Option Value ⊕ Nat) → mi_H → Prop} (n sl : Nat) (f : Nat → mi_C) {l1 : Nat} {l2 : Int32} {l3 : Int32} {l4 : Int32} {l5 : Int32} {l6 : Int32} {fs7 : List Value} (h8 : f l1 = .inr (12, fs7)) (h9 : l1 < n) (h10 : mi_W d 144 0 (mi_en 4 [.ref l1]) [] (n, sl, f) (mi_Kc d 167 119 [some (.ref l1), some (.int l2), some (.int l3), some (.int l4), some (.int l5), some (.int l6)] [] Q)) : mi_W (d + 1) 167 118 [some (.ref l1), some (.int l2), some (.int l3), some (.int l4), some (.int l5), some (.int l6)] [] (n, sl, f) Q := by
  refine w_aload_n cd_167_118 rfl ?_
  exact w_invokevirtual cd_167_119 (show mt_m 12 333 = some (144, 0) by decide +kernel) (rest := []) rfl (as := [.ref l1]) rfl h8 (Or.inl h9) ⟨Nat.le_of_ble_eq_true rfl, Nat.le_of_ble_eq_true rfl, Nat.le_of_ble_eq_true rfl⟩ h10
theorem b_167_122 {d : Nat} {Q : (Option Value ⊕ Nat) → mi_H → Prop} (n sl : Nat) (f : Nat → mi_C) {l1 : Nat} {l2 : Int32} {l3 : Int32} {l4 : Int32} {l5 : Int32} {l6 : Int32} {s7 : Int32} (h8 : s7 = (0 : Int32) → mi_W d 167 149 [some (.ref l1), some (.int l2), some (.int l3), some (.int l4), some (.int l5), some (.int l6)] [] (n, sl, f) Q) (h9 : ¬ (s7 = (0 : Int32)) → mi_W d 167 125 [some (.ref l1), some (.int l2), some (.int l3), some (.int l4), some (.int l5), some (.int l6)] [] (n, sl, f) Q) : mi_W d 167 122 [some (.ref l1), some (.int l2), some (.int l3), some (.int l4), some (.int l5), some (.int l6)] [.int s7] (n, sl, f) Q := by
  exact w_ifeq cd_167_122 (by decide) h8 h9
theorem b_167_125 {d : Nat} {Q : (Option Value ⊕ Nat) → mi_H → Prop} (n sl : Nat) (f : Nat → mi_C) {l1 : Nat} {l2 : Int32} {l3 : Int32} {l4 : Int32} {l5 : Int32} {l6 : Int32} {fs7 : List Value} (h8 : f l1 = .inr (12, fs7)) (h9 : l1 < n) (h10 : mi_W d 168 0 (mi_en 4 [.ref l1, .int l6]) [] (n, sl, f) (mi_Kc d 167 128 [some (.ref l1), some (.int l2), some (.int l3), some (.int l4), some (.int l5), some (.int l6)] [] Q)) : mi_W (d + 1) 167 125 [some (.ref l1), some (.int l2), some (.int l3), some (.int l4), some (.int l5), some (.int l6)] [] (n, sl, f) Q := by
  refine w_aload_n cd_167_125 rfl ?_
  refine w_iload cd_167_126 rfl ?_
  exact w_invokevirtual cd_167_128 (show mt_m 12 413 = some (168, 0) by decide +kernel) (rest := []) rfl (as := [.ref l1, .int l6]) rfl h8 (Or.inl h9) ⟨Nat.le_of_ble_eq_true rfl, Nat.le_of_ble_eq_true rfl, Nat.le_of_ble_eq_true rfl⟩ h10
theorem b_167_131 {d : Nat} {Q : (Option Value ⊕ Nat) → mi_H → Prop} (n sl : Nat) (f : Nat → mi_C) {l1 : Nat} {l2 : Int32} {l3 : Int32} {l4 : Int32} {l5 : Int32} {l6 : Int32} {s7 : Int32} (h8 : s7 = (0 : Int32) → mi_W d 167 149 [some (.ref l1), some (.int l2), some (.int l3), some (.int l4), some (.int l5), some (.int l6)] [] (n, sl, f) Q) (h9 : ¬ (s7 = (0 : Int32)) → mi_W d 167 134 [some (.ref l1), some (.int l2), some (.int l3), some (.int l4), some (.int l5), some (.int l6)] [] (n, sl, f) Q) : mi_W d 167 131 [some (.ref l1), some (.int l2), some (.int l3), some (.int l4), some (.int l5), some (.int l6)] [.int s7] (n, sl, f) Q := by
  exact w_ifeq cd_167_131 (by decide) h8 h9
theorem b_167_134 {d : Nat} {Q : (Option Value ⊕ Nat) → mi_H → Prop} (n sl : Nat) (f : Nat → mi_C) {l1 : Nat} {l2 : Int32} {l3 : Int32} {l4 : Int32} {l5 : Int32} {l6 : Int32} {fs7 : List Value} {x10 : Nat} {fs12 : List Value} (h8 : f l1 = .inr (12, fs7)) (h9 : l1 < n) (h11 : fs7[19]? = some (.ref x10)) (h13 : f l1 = .inr (12, fs12)) (h14 : l1 < n) (h15 : mi_W d 151 0 (mi_en 4 [.ref l1]) [] (n, sl, f) (mi_Kc d 167 141 [some (.ref l1), some (.int l2), some (.int l3), some (.int l4), some (.int l5), some (.int l6)] [.int l6, .ref x10] Q)) : mi_W (d + 1) 167 134 [some (.ref l1), some (.int l2), some (.int l3), some (.int l4), some (.int l5), some (.int l6)] [] (n, sl, f) Q := by
  refine w_aload_n cd_167_134 rfl ?_
  refine w_getfield cd_167_135 (show mt_f 12 98 = some (12, 19) by decide +kernel) h8 h9 h11 ?_
  refine w_iload cd_167_138 rfl ?_
  refine w_aload_n cd_167_140 rfl ?_
  exact w_invokevirtual cd_167_141 (show mt_m 12 355 = some (151, 0) by decide +kernel) (rest := [.int l6, .ref x10]) rfl (as := [.ref l1]) rfl h13 (Or.inl h14) ⟨Nat.le_of_ble_eq_true rfl, Nat.le_of_ble_eq_true rfl, Nat.le_of_ble_eq_true rfl⟩ h15
theorem b_167_144 {d : Nat} {Q : (Option Value ⊕ Nat) → mi_H → Prop} (n sl : Nat) (f : Nat → mi_C) {l1 : Nat} {l2 : Int32} {l3 : Int32} {l4 : Int32} {l5 : Int32} {l6 : Int32} {s7 : Int32} {s8 : Int32} {s9 : Nat} (m10 i10 : Nat) (g10 : Nat → Int32) (h11 : f s9 = .inl (0, m10, .inl g10)) (h12 : s9 < n) (h13 : mi_ix s8 m10 i10) (h14 : (0 : Int32) ≤ s7 → mi_W d 167 151 [some (.ref l1), some (.int l2), some (.int l3), some (.int l4), some (.int l5), some (.int l6)] [] (n, sl, (va_up f s9 (.inl (0, m10, .inl (upd g10 i10 s7))))) Q) (h15 : ¬ ((0 : Int32) ≤ s7) → mi_W d 167 149 [some (.ref l1), some (.int l2), some (.int l3), some (.int l4), some (.int l5), some (.int l6)] [] (n, sl, (va_up f s9 (.inl (0, m10, .inl (upd g10 i10 s7))))) Q) : mi_W d 167 144 [some (.ref l1), some (.int l2), some (.int l3), some (.int l4), some (.int l5), some (.int l6)] [.int s7, .int s8, .ref s9] (n, sl, f) Q := by
  refine w_dup_x2_iir cd_167_144 ?_
  refine w_iastore cd_167_145 h11 h12 h13 ?_
  exact w_ifge cd_167_146 (by decide) h14 h15
theorem b_167_149 {d : Nat} {Q : (Option Value ⊕ Nat) → mi_H → Prop} (n sl : Nat) (f : Nat → mi_C) {l1 : Nat} {l2 : Int32} {l3 : Int32} {l4 : Int32} {l5 : Int32} {l6 : Int32} (h7 : Q (.inl (some (.int 0))) (n, sl, f)) : mi_W d 167 149 [some (.ref l1), some (.int l2), some (.int l3), some (.int l4), some (.int l5), some (.int l6)] [] (n, sl, f) Q := by
  refine w_iconst (v := 0) cd_167_149 (by decide) ?_
  exact w_ireturn_z cd_167_150 (by decide +kernel) (by decide) h7
theorem b_167_151 {d : Nat} {Q : (Option Value ⊕ Nat) → mi_H → Prop} (n sl : Nat) (f : Nat → mi_C) {l1 : Nat} {l2 : Int32} {l3 : Int32} {l4 : Int32} {l5 : Int32} {l6 : Int32} (h7 : (0 : Int32) ≤ l3 → mi_W d 167 166 [some (.ref l1), some (.int l2), some (.int l3), some (.int l4), some (.int l5), some (.int l6)] [] (n, sl, f) Q) (h8 : ¬ ((0 : Int32) ≤ l3) → mi_W d 167 155 [some (.ref l1), some (.int l2), some (.int l3), some (.int l4), some (.int l5), some (.int l6)] [] (n, sl, f) Q) : mi_W d 167 151 [some (.ref l1), some (.int l2), some (.int l3), some (.int l4), some (.int l5), some (.int l6)] [] (n, sl, f) Q := by
  refine w_iload_n cd_167_151 rfl ?_
  exact w_ifge cd_167_152 (by decide) h7 h8
theorem b_167_155 {d : Nat} {Q : (Option Value ⊕ Nat) → mi_H → Prop} (n sl : Nat) (f : Nat → mi_C) {l1 : Nat} {l2 : Int32} {l3 : Int32} {l4 : Int32} {l5 : Int32} {l6 : Int32} {fs7 : List Value} {x10 : Nat} (m12 i12 : Nat) (g12 : Nat → Int32) (h8 : f l1 = .inr (12, fs7)) (h9 : l1 < n) (h11 : fs7[17]? = some (.ref x10)) (h13 : f x10 = .inl (0, m12, .inl g12)) (h14 : x10 < n) (h15 : mi_ix l2 m12 i12) (h16 : mi_W d 167 174 [some (.ref l1), some (.int l2), some (.int l3), some (.int l4), some (.int l5), some (.int l6)] [] (n, sl, (va_up f x10 (.inl (0, m12, .inl (upd g12 i12 l6))))) Q) : mi_W d 167 155 [some (.ref l1), some (.int l2), some (.int l3), some (.int l4), some (.int l5), some (.int l6)] [] (n, sl, f) Q := by
  refine w_aload_n cd_167_155 rfl ?_
  refine w_getfield cd_167_156 (show mt_f 12 92 = some (12, 17) by decide +kernel) h8 h9 h11 ?_
  refine w_iload_n cd_167_159 rfl ?_
  refine w_iload cd_167_160 rfl ?_
  refine w_iastore cd_167_162 h13 h14 h15 ?_
  exact w_goto cd_167_163 (by decide) h16
theorem b_167_166 {d : Nat} {Q : (Option Value ⊕ Nat) → mi_H → Prop} (n sl : Nat) (f : Nat → mi_C) {l1 : Nat} {l2 : Int32} {l3 : Int32} {l4 : Int32} {l5 : Int32} {l6 : Int32} {fs7 : List Value} {x10 : Nat} (m12 i12 : Nat) (g12 : Nat → Int32) (h8 : f l1 = .inr (12, fs7)) (h9 : l1 < n) (h11 : fs7[39]? = some (.ref x10)) (h13 : f x10 = .inl (0, m12, .inl g12)) (h14 : x10 < n) (h15 : mi_ix l3 m12 i12) (h16 : mi_W d 167 174 [some (.ref l1), some (.int l2), some (.int l3), some (.int l4), some (.int l5), some (.int l6)] [] (n, sl, (va_up f x10 (.inl (0, m12, .inl (upd g12 i12 l6))))) Q) : mi_W d 167 166 [some (.ref l1), some (.int l2), some (.int l3), some (.int l4), some (.int l5), some (.int l6)] [] (n, sl, f) Q := by
  refine w_aload_n cd_167_166 rfl ?_
  refine w_getfield cd_167_167 (show mt_f 12 138 = some (12, 39) by decide +kernel) h8 h9 h11 ?_
  refine w_iload_n cd_167_170 rfl ?_
  refine w_iload cd_167_171 rfl ?_
  refine w_iastore cd_167_173 h13 h14 h15 ?_
  exact h16
theorem b_167_174 {d : Nat} {Q : (Option Value ⊕ Nat) → mi_H → Prop} (n sl : Nat) (f : Nat → mi_C) {l1 : Nat} {l2 : Int32} {l3 : Int32} {l4 : Int32} {l5 : Int32} {l6 : Int32} {fs7 : List Value} {x10 : Nat} (m12 i12 : Nat) (g12 : Nat → Int32) (h8 : f l1 = .inr (12, fs7)) (h9 : l1 < n) (h11 : fs7[39]? = some (.ref x10)) (h13 : f x10 = .inl (0, m12, .inl g12)) (h14 : x10 < n) (h15 : mi_ix l6 m12 i12) (h16 : mi_W d 167 27 [some (.ref l1), some (.int l2), some (.int l6), some (.int l4), some (.int l5), some (.int l6)] [] (n, sl, (va_up f x10 (.inl (0, m12, .inl (upd g12 i12 ((-1))))))) Q) : mi_W d 167 174 [some (.ref l1), some (.int l2), some (.int l3), some (.int l4), some (.int l5), some (.int l6)] [] (n, sl, f) Q := by
  refine w_aload_n cd_167_174 rfl ?_
  refine w_getfield cd_167_175 (show mt_f 12 138 = some (12, 39) by decide +kernel) h8 h9 h11 ?_
  refine w_iload cd_167_178 rfl ?_
  refine w_iconst (v := (-1)) cd_167_180 (by decide) ?_
  refine w_iastore cd_167_181 h13 h14 h15 ?_
  refine w_iload cd_167_182 rfl ?_
  refine w_istore_n (ls' := [some (.ref l1), some (.int l2), some (.int l6), some (.int l4), some (.int l5), some (.int l6)]) cd_167_184 (Nat.le_of_ble_eq_true rfl) rfl ?_
  exact w_goto cd_167_185 (by decide) h16
theorem b_167_188 {d : Nat} {Q : (Option Value ⊕ Nat) → mi_H → Prop} (n sl : Nat) (f : Nat → mi_C) {l1 : Nat} {l2 : Int32} {l3 : Int32} {l4 : Int32} {o5 : Option Value} {o6 : Option Value} {fs7 : List Value} (h8 : f l1 = .inr (12, fs7)) (h9 : l1 < n) (h10 : mi_W d 144 0 (mi_en 4 [.ref l1]) [] (n, sl, f) (mi_Kc d 167 189 [some (.ref l1), some (.int l2), some (.int l3), some (.int l4), o5, o6] [] Q)) : mi_W (d + 1) 167 188 [some (.ref l1), some (.int l2), some (.int l3), some (.int l4), o5, o6] [] (n, sl, f) Q := by
  refine w_aload_n cd_167_188 rfl ?_
  exact w_invokevirtual cd_167_189 (show mt_m 12 333 = some (144, 0) by decide +kernel) (rest := []) rfl (as := [.ref l1]) rfl h8 (Or.inl h9) ⟨Nat.le_of_ble_eq_true rfl, Nat.le_of_ble_eq_true rfl, Nat.le_of_ble_eq_true rfl⟩ h10
theorem b_167_192 {d : Nat} {Q : (Option Value ⊕ Nat) → mi_H → Prop} (n sl : Nat) (f : Nat → mi_C) {l1 : Nat} {l2 : Int32} {l3 : Int32} {l4 : Int32} {o5 : Option Value} {o6 : Option Value} {s7 : Int32} (h8 : ¬ s7 = (0 : Int32) → mi_W d 167 197 [some (.ref l1), some (.int l2), some (.int l3), some (.int l4), o5, o6] [] (n, sl, f) Q) (h9 : ¬ (¬ s7 = (0 : Int32)) → mi_W d 167 195 [some (.ref l1), some (.int l2), some (.int l3), some (.int l4), o5, o6] [] (n, sl, f) Q) : mi_W d 167 192 [some (.ref l1), some (.int l2), some (.int l3), some (.int l4), o5, o6] [.int s7] (n, sl, f) Q := by
  exact w_ifne cd_167_192 (by decide) h8 h9
theorem b_167_195 {d : Nat} {Q : (Option Value ⊕ Nat) → mi_H → Prop} (n sl : Nat) (f : Nat → mi_C) {l1 : Nat} {l2 : Int32} {l3 : Int32} {l4 : Int32} {o5 : Option Value} {o6 : Option Value} (h7 : Q (.inl (some (.int 0))) (n, sl, f)) : mi_W d 167 195 [some (.ref l1), some (.int l2), some (.int l3), some (.int l4), o5, o6] [] (n, sl, f) Q := by
  refine w_iconst (v := 0) cd_167_195 (by decide) ?_
  exact w_ireturn_z cd_167_196 (by decide +kernel) (by decide) h7
theorem b_167_197 {d : Nat} {Q : (Option Value ⊕ Nat) → mi_H → Prop} (n sl : Nat) (f : Nat → mi_C) {l1 : Nat} {l2 : Int32} {l3 : Int32} {l4 : Int32} {o5 : Option Value} {o6 : Option Value} {fs7 : List Value} {x10 : Int32} (h8 : f l1 = .inr (12, fs7)) (h9 : l1 < n) (h11 : fs7[8]? = some (.int x10)) (h12 : x10 = 2 → mi_W d 167 214 [some (.ref l1), some (.int l2), some (.int l3), some (.int l4), o5, o6] [] (n, sl, f) Q) (h13 : ¬ (x10 = 2) → mi_W d 167 205 [some (.ref l1), some (.int l2), some (.int l3), some (.int l4), o5, o6] [] (n, sl, f) Q) : mi_W d 167 197 [some (.ref l1), some (.int l2), some (.int l3), some (.int l4), o5, o6] [] (n, sl, f) Q := by
  refine w_aload_n cd_167_197 rfl ?_
  refine w_getfield cd_167_198 (show mt_f 12 310 = some (12, 8) by decide +kernel) h8 h9 h11 ?_
  refine w_iconst (v := 2) cd_167_201 (by decide) ?_
  exact w_if_icmpeq cd_167_202 (by decide) h12 h13
theorem b_167_205 {d : Nat} {Q : (Option Value ⊕ Nat) → mi_H → Prop} (n sl : Nat) (f : Nat → mi_C) {l1 : Nat} {l2 : Int32} {l3 : Int32} {l4 : Int32} {o5 : Option Value} {o6 : Option Value} {fs7 : List Value} {x10 : Int32} {fs12 : List Value} (h8 : f l1 = .inr (12, fs7)) (h9 : l1 < n) (h11 : fs7[9]? = some (.int x10)) (h13 : f l1 = .inr (12, fs12)) (h14 : l1 < n) (h15 : mi_W d 142 0 (mi_en 2 [.ref l1, .int x10]) [] (n, sl, f) (mi_Kc d 167 210 [some (.ref l1), some (.int l2), some (.int l3), some (.int l4), o5, o6] [] Q)) : mi_W (d + 1) 167 205 [some (.ref l1), some (.int l2), some (.int l3), some (.int l4), o5, o6] [] (n, sl, f) Q := by
  refine w_aload_n cd_167_205 rfl ?_
  refine w_aload_n cd_167_206 rfl ?_
  refine w_getfield cd_167_207 (show mt_f 12 299 = some (12, 9) by decide +kernel) h8 h9 h11 ?_
  exact w_invokevirtual cd_167_210 (show mt_m 12 272 = some (142, 0) by decide +kernel) (rest := []) rfl (as := [.ref l1, .int x10]) rfl h13 (Or.inl h14) ⟨Nat.le_of_ble_eq_true rfl, Nat.le_of_ble_eq_true rfl, Nat.le_of_ble_eq_true rfl⟩ h15
theorem b_167_213 {d : Nat} {Q : (Option Value ⊕ Nat) → mi_H → Prop} (n sl : Nat) (f : Nat → mi_C) {l1 : Nat} {l2 : Int32} {l3 : Int32} {l4 : Int32} {o5 : Option Value} {o6 : Option Value} {s7 : Int32} (h8 : s7 = 0 ∨ s7 = 1) (h9 : Q (.inl (some (.int s7))) (n, sl, f)) : mi_W d 167 213 [some (.ref l1), some (.int l2), some (.int l3), some (.int l4), o5, o6] [.int s7] (n, sl, f) Q := by
  exact w_ireturn_z cd_167_213 (by decide +kernel) h8 h9
theorem b_167_214 {d : Nat} {Q : (Option Value ⊕ Nat) → mi_H → Prop} (n sl : Nat) (f : Nat → mi_C) {l1 : Nat} {l2 : Int32} {l3 : Int32} {l4 : Int32} {o5 : Option Value} {o6 : Option Value} {fs7 : List Value} {x10 : Nat} {fs12 : List Value} {x15 : Int64} (m17 i17 : Nat) (g17 : Nat → Int64) {fs21 : List Value} (h8 : f l1 = .inr (12, fs7)) (h9 : l1 < n) (h11 : fs7[20]? = some (.ref x10)) (h13 : f l1 = .inr (12, fs12)) (h14 : l1 < n) (h16 : fs12[11]? = some (.long x15)) (h18 : f x10 = .inl (3, m17, .inr (.inl g17))) (h19 : x10 < n) (h20 : mi_ix l2 m17 i17) (h22 : (va_up f x10 (.inl (3, m17, .inr (.inl (vp_updL g17 i17 x15))))) l1 = .inr (12, fs21)) (h23 : l1 < n) (h24 : mi_W d 144 0 (mi_en 4 [.ref l1]) [] (n, sl, (va_up f x10 (.inl (3, m17, .inr (.inl (vp_updL g17 i17 x15)))))) (mi_Kc d 167 225 [some (.ref l1), some (.int l2), some (.int l3), some (.int l4), o5, o6] [] Q)) : mi_W (d + 1) 167 214 [some (.ref l1), some (.int l2), some (.int l3), some (.int l4), o5, o6] [] (n, sl, f) Q := by
  refine w_aload_n cd_167_214 rfl ?_
  refine w_getfield cd_167_215 (show mt_f 12 101 = some (12, 20) by decide +kernel) h8 h9 h11 ?_
  refine w_iload_n cd_167_218 rfl ?_
  refine w_aload_n cd_167_219 rfl ?_
  refine w_getfield cd_167_220 (show mt_f 12 327 = some (12, 11) by decide +kernel) h13 h14 h16 ?_
  refine w_lastore cd_167_223 h18 h19 h20 ?_
  refine w_aload_n cd_167_224 rfl ?_
  exact w_invokevirtual cd_167_225 (show mt_m 12 333 = some (144, 0) by decide +kernel) (rest := []) rfl (as := [.ref l1]) rfl h22 (Or.inl h23) ⟨Nat.le_of_ble_eq_true rfl, Nat.le_of_ble_eq_true rfl, Nat.le_of_ble_eq_true rfl⟩ h24
theorem b_167_228 {d : Nat} {Q : (Option Value ⊕ Nat) → mi_H → Prop} (n sl : Nat) (f : Nat → mi_C) {l1 : Nat} {l2 : Int32} {l3 : Int32} {l4 : Int32} {o5 : Option Value} {o6 : Option Value} {s7 : Int32} (h8 : s7 = (0 : Int32) → mi_W d 167 249 [some (.ref l1), some (.int l2), some (.int l3), some (.int l4), o5, o6] [] (n, sl, f) Q) (h9 : ¬ (s7 = (0 : Int32)) → mi_W d 167 231 [some (.ref l1), some (.int l2), some (.int l3), some (.int l4), o5, o6] [] (n, sl, f) Q) : mi_W d 167 228 [some (.ref l1), some (.int l2), some (.int l3), some (.int l4), o5, o6] [.int s7] (n, sl, f) Q := by
  exact w_ifeq cd_167_228 (by decide) h8 h9
theorem b_167_231 {d : Nat} {Q : (Option Value ⊕ Nat) → mi_H → Prop} (n sl : Nat) (f : Nat → mi_C) {l1 : Nat} {l2 : Int32} {l3 : Int32} {l4 : Int32} {o5 : Option Value} {o6 : Option Value} {fs7 : List Value} {x10 : Nat} {fs12 : List Value} (h8 : f l1 = .inr (12, fs7)) (h9 : l1 < n) (h11 : fs7[19]? = some (.ref x10)) (h13 : f l1 = .inr (12, fs12)) (h14 : l1 < n) (h15 : mi_W d 151 0 (mi_en 4 [.ref l1]) [] (n, sl, f) (mi_Kc d 167 237 [some (.ref l1), some (.int l2), some (.int l3), some (.int l4), o5, o6] [.int l2, .ref x10] Q)) : mi_W (d + 1) 167 231 [some (.ref l1), some (.int l2), some (.int l3), some (.int l4), o5, o6] [] (n, sl, f) Q := by
  refine w_aload_n cd_167_231 rfl ?_
  refine w_getfield cd_167_232 (show mt_f 12 98 = some (12, 19) by decide +kernel) h8 h9 h11 ?_
  refine w_iload_n cd_167_235 rfl ?_
  refine w_aload_n cd_167_236 rfl ?_
  exact w_invokevirtual cd_167_237 (show mt_m 12 355 = some (151, 0) by decide +kernel) (rest := [.int l2, .ref x10]) rfl (as := [.ref l1]) rfl h13 (Or.inl h14) ⟨Nat.le_of_ble_eq_true rfl, Nat.le_of_ble_eq_true rfl, Nat.le_of_ble_eq_true rfl⟩ h15
theorem b_167_240 {d : Nat} {Q : (Option Value ⊕ Nat) → mi_H → Prop} (n sl : Nat) (f : Nat → mi_C) {l1 : Nat} {l2 : Int32} {l3 : Int32} {l4 : Int32} {o5 : Option Value} {o6 : Option Value} {s7 : Int32} {s8 : Int32} {s9 : Nat} (m10 i10 : Nat) (g10 : Nat → Int32) (h11 : f s9 = .inl (0, m10, .inl g10)) (h12 : s9 < n) (h13 : mi_ix s8 m10 i10) (h14 : s7 < (0 : Int32) → mi_W d 167 249 [some (.ref l1), some (.int l2), some (.int l3), some (.int l4), o5, o6] [] (n, sl, (va_up f s9 (.inl (0, m10, .inl (upd g10 i10 s7))))) Q) (h15 : ¬ (s7 < (0 : Int32)) → mi_W d 167 245 [some (.ref l1), some (.int l2), some (.int l3), some (.int l4), o5, o6] [] (n, sl, (va_up f s9 (.inl (0, m10, .inl (upd g10 i10 s7))))) Q) : mi_W d 167 240 [some (.ref l1), some (.int l2), some (.int l3), some (.int l4), o5, o6] [.int s7, .int s8, .ref s9] (n, sl, f) Q := by
  refine w_dup_x2_iir cd_167_240 ?_
  refine w_iastore cd_167_241 h11 h12 h13 ?_
  exact w_iflt cd_167_242 (by decide) h14 h15
theorem b_167_245 {d : Nat} {Q : (Option Value ⊕ Nat) → mi_H → Prop} (n sl : Nat) (f : Nat → mi_C) {l1 : Nat} {l2 : Int32} {l3 : Int32} {l4 : Int32} {o5 : Option Value} {o6 : Option Value} (h7 : mi_W d 167 250 [some (.ref l1), some (.int l2), some (.int l3), some (.int l4), o5, o6] [.int 1] (n, sl, f) Q) : mi_W d 167 245 [some (.ref l1), some (.int l2), some (.int l3), some (.int l4), o5, o6] [] (n, sl, f) Q := by
  refine w_iconst (v := 1) cd_167_245 (by decide) ?_
  exact w_goto cd_167_246 (by decide) h7
theorem b_167_249 {d : Nat} {Q : (Option Value ⊕ Nat) → mi_H → Prop} (n sl : Nat) (f : Nat → mi_C) {l1 : Nat} {l2 : Int32} {l3 : Int32} {l4 : Int32} {o5 : Option Value} {o6 : Option Value} (h7 : mi_W d 167 250 [some (.ref l1), some (.int l2), some (.int l3), some (.int l4), o5, o6] [.int 0] (n, sl, f) Q) : mi_W d 167 249 [some (.ref l1), some (.int l2), some (.int l3), some (.int l4), o5, o6] [] (n, sl, f) Q := by
  refine w_iconst (v := 0) cd_167_249 (by decide) ?_
  exact h7
theorem b_167_250 {d : Nat} {Q : (Option Value ⊕ Nat) → mi_H → Prop} (n sl : Nat) (f : Nat → mi_C) {l1 : Nat} {l2 : Int32} {l3 : Int32} {l4 : Int32} {o5 : Option Value} {o6 : Option Value} {s7 : Int32} (h8 : s7 = 0 ∨ s7 = 1) (h9 : Q (.inl (some (.int s7))) (n, sl, f)) : mi_W d 167 250 [some (.ref l1), some (.int l2), some (.int l3), some (.int l4), o5, o6] [.int s7] (n, sl, f) Q := by
  exact w_ireturn_z cd_167_250 (by decide +kernel) h8 h9
/-! MarloweHostModel.action(I)Z -/
theorem cd_168_0 : mt_cd 168 0 = some (.aload_n 0) := by decide +kernel
theorem cd_168_1 : mt_cd 168 1 = some (.getfield 77) := by decide +kernel
theorem cd_168_4 : mt_cd 168 4 = some (.iload_n 1) := by decide +kernel
theorem cd_168_5 : mt_cd 168 5 = some (.iaload) := by decide +kernel
theorem cd_168_6 : mt_cd 168 6 = some (.bipush 7) := by decide +kernel
theorem cd_168_8 : mt_cd 168 8 = some (.if_icmp .ne 65) := by decide +kernel
theorem cd_168_11 : mt_cd 168 11 = some (.aload_n 0) := by decide +kernel
theorem cd_168_12 : mt_cd 168 12 = some (.getfield 80) := by decide +kernel
theorem cd_168_15 : mt_cd 168 15 = some (.iload_n 1) := by decide +kernel
theorem cd_168_16 : mt_cd 168 16 = some (.aload_n 0) := by decide +kernel
theorem cd_168_17 : mt_cd 168 17 = some (.invokevirtual 370) := by decide +kernel
theorem cd_168_20 : mt_cd 168 20 = some (.dup_x2) := by decide +kernel
theorem cd_168_21 : mt_cd 168 21 = some (.iastore) := by decide +kernel
theorem cd_168_22 : mt_cd 168 22 = some (.ifCond .lt 49) := by decide +kernel
theorem cd_168_25 : mt_cd 168 25 = some (.aload_n 0) := by decide +kernel
theorem cd_168_26 : mt_cd 168 26 = some (.getfield 83) := by decide +kernel
theorem cd_168_29 : mt_cd 168 29 = some (.iload_n 1) := by decide +kernel
theorem cd_168_30 : mt_cd 168 30 = some (.aload_n 0) := by decide +kernel
theorem cd_168_31 : mt_cd 168 31 = some (.invokevirtual 370) := by decide +kernel
theorem cd_168_34 : mt_cd 168 34 = some (.dup_x2) := by decide +kernel
theorem cd_168_35 : mt_cd 168 35 = some (.iastore) := by decide +kernel
theorem cd_168_36 : mt_cd 168 36 = some (.ifCond .lt 35) := by decide +kernel
theorem cd_168_39 : mt_cd 168 39 = some (.aload_n 0) := by decide +kernel
theorem cd_168_40 : mt_cd 168 40 = some (.getfield 86) := by decide +kernel
theorem cd_168_43 : mt_cd 168 43 = some (.iload_n 1) := by decide +kernel
theorem cd_168_44 : mt_cd 168 44 = some (.aload_n 0) := by decide +kernel
theorem cd_168_45 : mt_cd 168 45 = some (.invokevirtual 396) := by decide +kernel
theorem cd_168_48 : mt_cd 168 48 = some (.dup_x2) := by decide +kernel
theorem cd_168_49 : mt_cd 168 49 = some (.iastore) := by decide +kernel
theorem cd_168_50 : mt_cd 168 50 = some (.ifCond .lt 21) := by decide +kernel
theorem cd_168_53 : mt_cd 168 53 = some (.aload_n 0) := by decide +kernel
theorem cd_168_54 : mt_cd 168 54 = some (.getfield 89) := by decide +kernel
theorem cd_168_57 : mt_cd 168 57 = some (.iload_n 1) := by decide +kernel
theorem cd_168_58 : mt_cd 168 58 = some (.aload_n 0) := by decide +kernel
theorem cd_168_59 : mt_cd 168 59 = some (.invokevirtual 399) := by decide +kernel
theorem cd_168_62 : mt_cd 168 62 = some (.dup_x2) := by decide +kernel
theorem cd_168_63 : mt_cd 168 63 = some (.iastore) := by decide +kernel
theorem cd_168_64 : mt_cd 168 64 = some (.ifCond .lt 7) := by decide +kernel
theorem cd_168_67 : mt_cd 168 67 = some (.iconst 1) := by decide +kernel
theorem cd_168_68 : mt_cd 168 68 = some (.goto 4) := by decide +kernel
theorem cd_168_71 : mt_cd 168 71 = some (.iconst 0) := by decide +kernel
theorem cd_168_72 : mt_cd 168 72 = some (.ireturn) := by decide +kernel
theorem cd_168_73 : mt_cd 168 73 = some (.aload_n 0) := by decide +kernel
theorem cd_168_74 : mt_cd 168 74 = some (.getfield 77) := by decide +kernel
theorem cd_168_77 : mt_cd 168 77 = some (.iload_n 1) := by decide +kernel
theorem cd_168_78 : mt_cd 168 78 = some (.iaload) := by decide +kernel
theorem cd_168_79 : mt_cd 168 79 = some (.bipush 9) := by decide +kernel
theorem cd_168_81 : mt_cd 168 81 = some (.if_icmp .ne 23) := by decide +kernel
theorem cd_168_84 : mt_cd 168 84 = some (.aload_n 0) := by decide +kernel
theorem cd_168_85 : mt_cd 168 85 = some (.getfield 89) := by decide +kernel
theorem cd_168_88 : mt_cd 168 88 = some (.iload_n 1) := by decide +kernel
theorem cd_168_89 : mt_cd 168 89 = some (.aload_n 0) := by decide +kernel
theorem cd_168_90 : mt_cd 168 90 = some (.invokevirtual 401) := by decide +kernel
theorem cd_168_93 : mt_cd 168 93 = some (.dup_x2) := by decide +kernel
theorem cd_168_94 : mt_cd 168 94 = some (.iastore) := by decide +kernel
theorem cd_168_95 : mt_cd 168 95 = some (.ifCond .lt 7) := by decide +kernel
theorem cd_168_98 : mt_cd 168 98 = some (.iconst 1) := by decide +kernel
theorem cd_168_99 : mt_cd 168 99 = some (.goto 4) := by decide +kernel
theorem cd_168_102 : mt_cd 168 102 = some (.iconst 0) := by decide +kernel
theorem cd_168_103 : mt_cd 168 103 = some (.ireturn) := by decide +kernel
theorem cd_168_104 : mt_cd 168 104 = some (.aload_n 0) := by decide +kernel
theorem cd_168_105 : mt_cd 168 105 = some (.getfield 80) := by decide +kernel
theorem cd_168_108 : mt_cd 168 108 = some (.iload_n 1) := by decide +kernel
theorem cd_168_109 : mt_cd 168 109 = some (.aload_n 0) := by decide +kernel
theorem cd_168_110 : mt_cd 168 110 = some (.invokevirtual 416) := by decide +kernel
theorem cd_168_113 : mt_cd 168 113 = some (.dup_x2) := by decide +kernel
theorem cd_168_114 : mt_cd 168 114 = some (.iastore) := by decide +kernel
theorem cd_168_115 : mt_cd 168 115 = some (.ifCond .lt 17) := by decide +kernel
theorem cd_168_118 : mt_cd 168 118 = some (.aload_n 0) := by decide +kernel
theorem cd_168_119 : mt_cd 168 119 = some (.aload_n 0) := by decide +kernel
theorem cd_168_120 : mt_cd 168 120 = some (.ldc_w 409) := by decide +kernel
theorem cd_168_123 : mt_cd 168 123 = some (.invokevirtual 375) := by decide +kernel
theorem cd_168_126 : mt_cd 168 126 = some (.invokevirtual 383) := by decide +kernel
theorem cd_168_129 : mt_cd 168 129 = some (.ifCond .ne 5) := by decide +kernel
theorem cd_168_132 : mt_cd 168 132 = some (.iconst 0) := by decide +kernel
theorem cd_168_133 : mt_cd 168 133 = some (.ireturn) := by decide +kernel
theorem cd_168_134 : mt_cd 168 134 = some (.aload_n 0) := by decide +kernel
theorem cd_168_135 : mt_cd 168 135 = some (.getfield 141) := by decide +kernel
theorem cd_168_138 : mt_cd 168 138 = some (.iload_n 1) := by decide +kernel
theorem cd_168_139 : mt_cd 168 139 = some (.aload_n 0) := by decide +kernel
theorem cd_168_140 : mt_cd 168 140 = some (.getfield 340) := by decide +kernel
theorem cd_168_143 : mt_cd 168 143 = some (.iastore) := by decide +kernel
theorem cd_168_144 : mt_cd 168 144 = some (.aload_n 0) := by decide +kernel
theorem cd_168_145 : mt_cd 168 145 = some (.getfield 95) := by decide +kernel
theorem cd_168_148 : mt_cd 168 148 = some (.iload_n 1) := by decide +kernel
theorem cd_168_149 : mt_cd 168 149 = some (.iconst 0) := by decide +kernel
theorem cd_168_150 : mt_cd 168 150 = some (.iastore) := by decide +kernel
theorem cd_168_151 : mt_cd 168 151 = some (.aload_n 0) := by decide +kernel
theorem cd_168_152 : mt_cd 168 152 = some (.getfield 310) := by decide +kernel
theorem cd_168_155 : mt_cd 168 155 = some (.iconst 2) := by decide +kernel
theorem cd_168_156 : mt_cd 168 156 = some (.if_icmp .eq 12) := by decide +kernel
theorem cd_168_159 : mt_cd 168 159 = some (.aload_n 0) := by decide +kernel
theorem cd_168_160 : mt_cd 168 160 = some (.aload_n 0) := by decide +kernel
theorem cd_168_161 : mt_cd 168 161 = some (.getfield 299) := by decide +kernel
theorem cd_168_164 : mt_cd 168 164 = some (.invokevirtual 272) := by decide +kernel
theorem cd_168_167 : mt_cd 168 167 = some (.ireturn) := by decide +kernel
theorem cd_168_168 : mt_cd 168 168 = some (.aload_n 0) := by decide +kernel
theorem cd_168_169 : mt_cd 168 169 = some (.getfield 327) := by decide +kernel
theorem cd_168_172 : mt_cd 168 172 = some (.lstore_n 2) := by decide +kernel
theorem cd_168_173 : mt_cd 168 173 = some (.aload_n 0) := by decide +kernel
theorem cd_168_174 : mt_cd 168 174 = some (.invokevirtual 333) := by decide +kernel
theorem cd_168_177 : mt_cd 168 177 = some (.ifCond .ne 5) := by decide +kernel
theorem cd_168_180 : mt_cd 168 180 = some (.iconst 0) := by decide +kernel
theorem cd_168_181 : mt_cd 168 181 = some (.ireturn) := by decide +kernel
theorem cd_168_182 : mt_cd 168 182 = some (.aload_n 0) := by decide +kernel
theorem cd_168_183 : mt_cd 168 183 = some (.getfield 310) := by decide +kernel
theorem cd_168_186 : mt_cd 168 186 = some (.iconst 2) := by decide +kernel
theorem cd_168_187 : mt_cd 168 187 = some (.if_icmp .ne 12) := by decide +kernel
theorem cd_168_190 : mt_cd 168 190 = some (.aload_n 0) := by decide +kernel
theorem cd_168_191 : mt_cd 168 191 = some (.getfield 327) := by decide +kernel
theorem cd_168_194 : mt_cd 168 194 = some (.lload_n 2) := by decide +kernel
theorem cd_168_195 : mt_cd 168 195 = some (.lcmp) := by decide +kernel
theorem cd_168_196 : mt_cd 168 196 = some (.ifCond .ge 12) := by decide +kernel
theorem cd_168_199 : mt_cd 168 199 = some (.aload_n 0) := by decide +kernel
theorem cd_168_200 : mt_cd 168 200 = some (.aload_n 0) := by decide +kernel
theorem cd_168_201 : mt_cd 168 201 = some (.getfield 299) := by decide +kernel
theorem cd_168_204 : mt_cd 168 204 = some (.invokevirtual 272) := by decide +kernel
theorem cd_168_207 : mt_cd 168 207 = some (.ireturn) := by decide +kernel
theorem cd_168_208 : mt_cd 168 208 = some (.aload_n 0) := by decide +kernel
theorem cd_168_209 : mt_cd 168 209 = some (.getfield 105) := by decide +kernel
theorem cd_168_212 : mt_cd 168 212 = some (.aload_n 0) := by decide +kernel
theorem cd_168_213 : mt_cd 168 213 = some (.getfield 340) := by decide +kernel
theorem cd_168_216 : mt_cd 168 216 = some (.lload_n 2) := by decide +kernel
theorem cd_168_217 : mt_cd 168 217 = some (.lastore) := by decide +kernel
theorem cd_168_218 : mt_cd 168 218 = some (.aload_n 0) := by decide +kernel
theorem cd_168_219 : mt_cd 168 219 = some (.getfield 108) := by decide +kernel
theorem cd_168_222 : mt_cd 168 222 = some (.aload_n 0) := by decide +kernel
theorem cd_168_223 : mt_cd 168 223 = some (.dup) := by decide +kernel
theorem cd_168_224 : mt_cd 168 224 = some (.getfield 340) := by decide +kernel
theorem cd_168_227 : mt_cd 168 227 = some (.dup_x1) := by decide +kernel
theorem cd_168_228 : mt_cd 168 228 = some (.iconst 1) := by decide +kernel
theorem cd_168_229 : mt_cd 168 229 = some (.iadd) := by decide +kernel
theorem cd_168_230 : mt_cd 168 230 = some (.putfield 340) := by decide +kernel
theorem cd_168_233 : mt_cd 168 233 = some (.aload_n 0) := by decide +kernel
theorem cd_168_234 : mt_cd 168 234 = some (.getfield 327) := by decide +kernel
theorem cd_168_237 : mt_cd 168 237 = some (.lastore) := by decide +kernel
theorem cd_168_238 : mt_cd 168 238 = some (.aload_n 0) := by decide +kernel
theorem cd_168_239 : mt_cd 168 239 = some (.getfield 95) := by decide +kernel
theorem cd_168_242 : mt_cd 168 242 = some (.iload_n 1) := by decide +kernel
theorem cd_168_243 : mt_cd 168 243 = some (.dup2) := by decide +kernel
theorem cd_168_244 : mt_cd 168 244 = some (.iaload) := by decide +kernel
theorem cd_168_245 : mt_cd 168 245 = some (.iconst 1) := by decide +kernel
theorem cd_168_246 : mt_cd 168 246 = some (.iadd) := by decide +kernel
theorem cd_168_247 : mt_cd 168 247 = some (.iastore) := by decide +kernel
theorem cd_168_248 : mt_cd 168 248 = some (.aload_n 0) := by decide +kernel
theorem cd_168_249 : mt_cd 168 249 = some (.invokevirtual 333) := by decide +kernel
theorem cd_168_252 : mt_cd 168 252 = some (.ifCond .ne 5) := by decide +kernel
theorem cd_168_255 : mt_cd 168 255 = some (.iconst 0) := by decide +kernel
theorem cd_168_256 : mt_cd 168 256 = some (.ireturn) := by decide +kernel
theorem cd_168_257 : mt_cd 168 257 = some (.aload_n 0) := by decide +kernel
theorem cd_168_258 : mt_cd 168 258 = some (.ldc_w 411) := by decide +kernel
theorem cd_168_261 : mt_cd 168 261 = some (.invokevirtual 375) := by decide +kernel
theorem cd_168_264 : mt_cd 168 264 = some (.ifCond .eq (-113)) := by decide +kernel
theorem cd_168_267 : mt_cd 168 267 = some (.aload_n 0) := by decide +kernel
theorem cd_168_268 : mt_cd 168 268 = some (.invokevirtual 333) := by decide +kernel
theorem cd_168_271 : mt_cd 168 271 = some (.ireturn) := by decide +kernel
theorem b_168_0 {d : Nat} {Q : (Option Value ⊕ Nat) → mi_H → Prop} (n sl : Nat) (f : Nat → mi_C) {l1 : Nat} {l2 : Int32} {o3 : Option Value} {o4 : Option Value} {fs5 : List Value} {x8 : Nat} (m10 i10 : Nat) (g10 : Nat → Int32) (h6 : f l1 = .inr (12, fs5)) (h7 : l1 < n) (h9 : fs5[12]? = some (.ref x8)) (h11 : f x8 = .inl (0, m10, .inl g10)) (h12 : x8 < n ∨ x8 = mi_SC) (h13 : mi_ix l2 m10 i10) (h14 : ¬ (g10 i10) = 7 → mi_W d 168 73 [some (.ref l1), some (.int l2), o3, o4] [] (n, sl, f) Q) (h15 : ¬ (¬ (g10 i10) = 7) → mi_W d 168 11 [some (.ref l1), some (.int l2), o3, o4] [] (n, sl, f) Q) : mi_W d 168 0 [some (.ref l1), some (.int l2), o3, o4] [] (n, sl, f) Q := by
  refine w_aload_n cd_168_0 rfl ?_
  refine w_getfield cd_168_1 (show mt_f 12 77 = some (12, 12) by decide +kernel) h6 h7 h9 ?_
  refine w_iload_n cd_168_4 rfl ?_
  refine w_iaload cd_168_5 h11 h12 h13 ?_
  refine w_bipush (v := 7) cd_168_6 (by decide) ?_
  exact w_if_icmpne cd_168_8 (by decide) h14 h15
theorem b_168_11 {d : Nat} {Q : (Option Value ⊕ Nat) → mi_H → Prop} (n sl : Nat) (f : Nat → mi_C) {l1 : Nat} {l2 : Int32} {o3 : Option Value} {o4 : Option Value} {fs5 : List Value} {x8 : Nat} {fs10 : List Value} (h6 : f l1 = .inr (12, fs5)) (h7 : l1 < n) (h9 : fs5[13]? = some (.ref x8)) (h11 : f l1 = .inr (12, fs10)) (h12 : l1 < n) (h13 : mi_W d 158 0 (mi_en 2 [.ref l1]) [] (n, sl, f) (mi_Kc d 168 17 [some (.ref l1), some (.int l2), o3, o4] [.int l2, .ref x8] Q)) : mi_W (d + 1) 168 11 [some (.ref l1), some (.int l2), o3, o4] [] (n, sl, f) Q := by
  refine w_aload_n cd_168_11 rfl ?_
  refine w_getfield cd_168_12 (show mt_f 12 80 = some (12, 13) by decide +kernel) h6 h7 h9 ?_
  refine w_iload_n cd_168_15 rfl ?_
  refine w_aload_n cd_168_16 rfl ?_
  exact w_invokevirtual cd_168_17 (show mt_m 12 370 = some (158, 0) by decide +kernel) (rest := [.int l2, .ref x8]) rfl (as := [.ref l1]) rfl h11 (Or.inl h12) ⟨Nat.le_of_ble_eq_true rfl, Nat.le_of_ble_eq_true rfl, Nat.le_of_ble_eq_true rfl⟩ h13
theorem b_168_20 {d : Nat} {Q : (Option Value ⊕ Nat) → mi_H → Prop} (n sl : Nat) (f : Nat → mi_C) {l1 : Nat} {l2 : Int32} {o3 : Option Value} {o4 : Option Value} {s5 : Int32} {s6 : Int32} {s7 : Nat} (m8 i8 : Nat) (g8 : Nat → Int32) (h9 : f s7 = .inl (0, m8, .inl g8)) (h10 : s7 < n) (h11 : mi_ix s6 m8 i8) (h12 : s5 < (0 : Int32) → mi_W d 168 71 [some (.ref l1), some (.int l2), o3, o4] [] (n, sl, (va_up f s7 (.inl (0, m8, .inl (upd g8 i8 s5))))) Q) (h13 : ¬ (s5 < (0 : Int32)) → mi_W d 168 25 [some (.ref l1), some (.int l2), o3, o4] [] (n, sl, (va_up f s7 (.inl (0, m8, .inl (upd g8 i8 s5))))) Q) : mi_W d 168 20 [some (.ref l1), some (.int l2), o3, o4] [.int s5, .int s6, .ref s7] (n, sl, f) Q := by
  refine w_dup_x2_iir cd_168_20 ?_
  refine w_iastore cd_168_21 h9 h10 h11 ?_
  exact w_iflt cd_168_22 (by decide) h12 h13
theorem b_168_25 {d : Nat} {Q : (Option Value ⊕ Nat) → mi_H → Prop} (n sl : Nat) (f : Nat → mi_C) {l1 : Nat} {l2 : Int32} {o3 : Option Value} {o4 : Option Value} {fs5 : List Value} {x8 : Nat} {fs10 : List Value} (h6 : f l1 = .inr (12, fs5)) (h7 : l1 < n) (h9 : fs5[14]? = some (.ref x8)) (h11 : f l1 = .inr (12, fs10)) (h12 : l1 < n) (h13 : mi_W d 158 0 (mi_en 2 [.ref l1]) [] (n, sl, f) (mi_Kc d 168 31 [some (.ref l1), some (.int l2), o3, o4] [.int l2, .ref x8] Q)) : mi_W (d + 1) 168 25 [some (.ref l1), some (.int l2), o3, o4] [] (n, sl, f) Q := by
  refine w_aload_n cd_168_25 rfl ?_
  refine w_getfield cd_168_26 (show mt_f 12 83 = some (12, 14) by decide +kernel) h6 h7 h9 ?_
  refine w_iload_n cd_168_29 rfl ?_
  refine w_aload_n cd_168_30 rfl ?_
  exact w_invokevirtual cd_168_31 (show mt_m 12 370 = some (158, 0) by decide +kernel) (rest := [.int l2, .ref x8]) rfl (as := [.ref l1]) rfl h11 (Or.inl h12) ⟨Nat.le_of_ble_eq_true rfl, Nat.le_of_ble_eq_true rfl, Nat.le_of_ble_eq_true rfl⟩ h13
theorem b_168_34 {d : Nat} {Q : (Option Value ⊕ Nat) → mi_H → Prop} (n sl : Nat) (f : Nat → mi_C) {l1 : Nat} {l2 : Int32} {o3 : Option Value} {o4 : Option Value} {s5 : Int32} {s6 : Int32} {s7 : Nat} (m8 i8 : Nat) (g8 : Nat → Int32) (h9 : f s7 = .inl (0, m8, .inl g8)) (h10 : s7 < n) (h11 : mi_ix s6 m8 i8) (h12 : s5 < (0 : Int32) → mi_W d 168 71 [some (.ref l1), some (.int l2), o3, o4] [] (n, sl, (va_up f s7 (.inl (0, m8, .inl (upd g8 i8 s5))))) Q) (h13 : ¬ (s5 < (0 : Int32)) → mi_W d 168 39 [some (.ref l1), some (.int l2), o3, o4] [] (n, sl, (va_up f s7 (.inl (0, m8, .inl (upd g8 i8 s5))))) Q) : mi_W d 168 34 [some (.ref l1), some (.int l2), o3, o4] [.int s5, .int s6, .ref s7] (n, sl, f) Q := by
  refine w_dup_x2_iir cd_168_34 ?_
  refine w_iastore cd_168_35 h9 h10 h11 ?_
  exact w_iflt cd_168_36 (by decide) h12 h13
theorem b_168_39 {d : Nat} {Q : (Option Value ⊕ Nat) → mi_H → Prop} (n sl : Nat) (f : Nat → mi_C) {l1 : Nat} {l2 : Int32} {o3 : Option Value} {o4 : Option Value} {fs5 : List Value} {x8 : Nat} {fs10 : List Value} (h6 : f l1 = .inr (12, fs5)) (h7 : l1 < n) (h9 : fs5[15]? = some (.ref x8)) (h11 : f l1 = .inr (12, fs10)) (h12 : l1 < n) (h13 : mi_W d 161 0 (mi_en 2 [.ref l1]) [] (n, sl, f) (mi_Kc d 168 45 [some (.ref l1), some (.int l2), o3, o4] [.int l2, .ref x8] Q)) : mi_W (d + 1) 168 39 [some (.ref l1), some (.int l2), o3, o4] [] (n, sl, f) Q := by
  refine w_aload_n cd_168_39 rfl ?_
  refine w_getfield cd_168_40 (show mt_f 12 86 = some (12, 15) by decide +kernel) h6 h7 h9 ?_
  refine w_iload_n cd_168_43 rfl ?_
  refine w_aload_n cd_168_44 rfl ?_
  exact w_invokevirtual cd_168_45 (show mt_m 12 396 = some (161, 0) by decide +kernel) (rest := [.int l2, .ref x8]) rfl (as := [.ref l1]) rfl h11 (Or.inl h12) ⟨Nat.le_of_ble_eq_true rfl, Nat.le_of_ble_eq_true rfl, Nat.le_of_ble_eq_true rfl⟩ h13
theorem b_168_48 {d : Nat} {Q : (Option Value ⊕ Nat) → mi_H → Prop} (n sl : Nat) (f : Nat → mi_C) {l1 : Nat} {l2 : Int32} {o3 : Option Value} {o4 : Option Value} {s5 : Int32} {s6 : Int32} {s7 : Nat} (m8 i8 : Nat) (g8 : Nat → Int32) (h9 : f s7 = .inl (0, m8, .inl g8)) (h10 : s7 < n) (h11 : mi_ix s6 m8 i8) (h12 : s5 < (0 : Int32) → mi_W d 168 71 [some (.ref l1), some (.int l2), o3, o4] [] (n, sl, (va_up f s7 (.inl (0, m8, .inl (upd g8 i8 s5))))) Q) (h13 : ¬ (s5 < (0 : Int32)) → mi_W d 168 53 [some (.ref l1), some (.int l2), o3, o4] [] (n, sl, (va_up f s7 (.inl (0, m8, .inl (upd g8 i8 s5))))) Q) : mi_W d 168 48 [some (.ref l1), some (.int l2), o3, o4] [.int s5, .int s6, .ref s7] (n, sl, f) Q := by
  refine w_dup_x2_iir cd_168_48 ?_
  refine w_iastore cd_168_49 h9 h10 h11 ?_
  exact w_iflt cd_168_50 (by decide) h12 h13
theorem b_168_53 {d : Nat} {Q : (Option Value ⊕ Nat) → mi_H → Prop} (n sl : Nat) (f : Nat → mi_C) {l1 : Nat} {l2 : Int32} {o3 : Option Value} {o4 : Option Value} {fs5 : List Value} {x8 : Nat} {fs10 : List Value} (h6 : f l1 = .inr (12, fs5)) (h7 : l1 < n) (h9 : fs5[16]? = some (.ref x8)) (h11 : f l1 = .inr (12, fs10)) (h12 : l1 < n) (h13 : mi_W d 162 0 (mi_en 4 [.ref l1]) [] (n, sl, f) (mi_Kc d 168 59 [some (.ref l1), some (.int l2), o3, o4] [.int l2, .ref x8] Q)) : mi_W (d + 1) 168 53 [some (.ref l1), some (.int l2), o3, o4] [] (n, sl, f) Q := by
  refine w_aload_n cd_168_53 rfl ?_
  refine w_getfield cd_168_54 (show mt_f 12 89 = some (12, 16) by decide +kernel) h6 h7 h9 ?_
  refine w_iload_n cd_168_57 rfl ?_
  refine w_aload_n cd_168_58 rfl ?_
  exact w_invokevirtual cd_168_59 (show mt_m 12 399 = some (162, 0) by decide +kernel) (rest := [.int l2, .ref x8]) rfl (as := [.ref l1]) rfl h11 (Or.inl h12) ⟨Nat.le_of_ble_eq_true rfl, Nat.le_of_ble_eq_true rfl, Nat.le_of_ble_eq_true rfl⟩ h13
theorem b_168_62 {d : Nat} {Q : (Option Value ⊕ Nat) → mi_H → Prop} (n sl : Nat) (f : Nat → mi_C) {l1 : Nat} {l2 : Int32} {o3 : Option Value} {o4 : Option Value} {s5 : Int32} {s6 : Int32} {s7 : Nat} (m8 i8 : Nat) (g8 : Nat → Int32) (h9 : f s7 = .inl (0, m8, .inl g8)) (h10 : s7 < n) (h11 : mi_ix s6 m8 i8) (h12 : s5 < (0 : Int32) → mi_W d 168 71 [some (.ref l1), some (.int l2), o3, o4] [] (n, sl, (va_up f s7 (.inl (0, m8, .inl (upd g8 i8 s5))))) Q) (h13 : ¬ (s5 < (0 : Int32)) → mi_W d 168 67 [some (.ref l1), some (.int l2), o3, o4] [] (n, sl, (va_up f s7 (.inl (0, m8, .inl (upd g8 i8 s5))))) Q) : mi_W d 168 62 [some (.ref l1), some (.int l2), o3, o4] [.int s5, .int s6, .ref s7] (n, sl, f) Q := by
  refine w_dup_x2_iir cd_168_62 ?_
  refine w_iastore cd_168_63 h9 h10 h11 ?_
  exact w_iflt cd_168_64 (by decide) h12 h13
theorem b_168_67 {d : Nat} {Q : (Option Value ⊕ Nat) → mi_H → Prop} (n sl : Nat) (f : Nat → mi_C) {l1 : Nat} {l2 : Int32} {o3 : Option Value} {o4 : Option Value} (h5 : mi_W d 168 72 [some (.ref l1), some (.int l2), o3, o4] [.int 1] (n, sl, f) Q) : mi_W d 168 67 [some (.ref l1), some (.int l2), o3, o4] [] (n, sl, f) Q := by
  refine w_iconst (v := 1) cd_168_67 (by decide) ?_
  exact w_goto cd_168_68 (by decide) h5
theorem b_168_71 {d : Nat} {Q : (Option Value ⊕ Nat) → mi_H → Prop} (n sl : Nat) (f : Nat → mi_C) {l1 : Nat} {l2 : Int32} {o3 : Option Value} {o4 : Option Value} (h5 : mi_W d 168 72 [some (.ref l1), some (.int l2), o3, o4] [.int 0] (n, sl, f) Q) : mi_W d 168 71 [some (.ref l1), some (.int l2), o3, o4] [] (n, sl, f) Q := by
  refine w_iconst (v := 0) cd_168_71 (by decide) ?_
  exact h5
theorem b_168_72 {d : Nat} {Q : (Option Value ⊕ Nat) → mi_H → Prop} (n sl : Nat) (f : Nat → mi_C) {l1 : Nat} {l2 : Int32} {o3 : Option Value} {o4 : Option Value} {s5 : Int32} (h6 : s5 = 0 ∨ s5 = 1) (h7 : Q (.inl (some (.int s5))) (n, sl, f)) : mi_W d 168 72 [some (.ref l1), some (.int l2), o3, o4] [.int s5] (n, sl, f) Q := by
  exact w_ireturn_z cd_168_72 (by decide +kernel) h6 h7
theorem b_168_73 {d : Nat} {Q : (Option Value ⊕ Nat) → mi_H → Prop} (n sl : Nat) (f : Nat → mi_C) {l1 : Nat} {l2 : Int32} {o3 : Option Value} {o4 : Option Value} {fs5 : List Value} {x8 : Nat} (m10 i10 : Nat) (g10 : Nat → Int32) (h6 : f l1 = .inr (12, fs5)) (h7 : l1 < n) (h9 : fs5[12]? = some (.ref x8)) (h11 : f x8 = .inl (0, m10, .inl g10)) (h12 : x8 < n ∨ x8 = mi_SC) (h13 : mi_ix l2 m10 i10) (h14 : ¬ (g10 i10) = 9 → mi_W d 168 104 [some (.ref l1), some (.int l2), o3, o4] [] (n, sl, f) Q) (h15 : ¬ (¬ (g10 i10) = 9) → mi_W d 168 84 [some (.ref l1), some (.int l2), o3, o4] [] (n, sl, f) Q) : mi_W d 168 73 [some (.ref l1), some (.int l2), o3, o4] [] (n, sl, f) Q := by
  refine w_aload_n cd_168_73 rfl ?_
  refine w_getfield cd_168_74 (show mt_f 12 77 = some (12, 12) by decide +kernel) h6 h7 h9 ?_
  refine w_iload_n cd_168_77 rfl ?_
  refine w_iaload cd_168_78 h11 h12 h13 ?_
  refine w_bipush (v := 9) cd_168_79 (by decide) ?_
  exact w_if_icmpne cd_168_81 (by decide) h14 h15
theorem b_168_84 {d : Nat} {Q : (Option Value ⊕ Nat) → mi_H → Prop} (n sl : Nat) (f : Nat → mi_C) {l1 : Nat} {l2 : Int32} {o3 : Option Value} {o4 : Option Value} {fs5 : List Value} {x8 : Nat} {fs10 : List Value} (h6 : f l1 = .inr (12, fs5)) (h7 : l1 < n) (h9 : fs5[16]? = some (.ref x8)) (h11 : f l1 = .inr (12, fs10)) (h12 : l1 < n) (h13 : mi_W d 166 0 (mi_en 4 [.ref l1]) [] (n, sl, f) (mi_Kc d 168 90 [some (.ref l1), some (.int l2), o3, o4] [.int l2, .ref x8] Q)) : mi_W (d + 1) 168 84 [some (.ref l1), some (.int l2), o3, o4] [] (n, sl, f) Q := by
  refine w_aload_n cd_168_84 rfl ?_
  refine w_getfield cd_168_85 (show mt_f 12 89 = some (12, 16) by decide +kernel) h6 h7 h9 ?_
  refine w_iload_n cd_168_88 rfl ?_
  refine w_aload_n cd_168_89 rfl ?_
  exact w_invokevirtual cd_168_90 (show mt_m 12 401 = some (166, 0) by decide +kernel) (rest := [.int l2, .ref x8]) rfl (as := [.ref l1]) rfl h11 (Or.inl h12) ⟨Nat.le_of_ble_eq_true rfl, Nat.le_of_ble_eq_true rfl, Nat.le_of_ble_eq_true rfl⟩ h13
theorem b_168_93 {d : Nat} {Q : (Option Value ⊕ Nat) → mi_H → Prop} (n sl : Nat) (f : Nat → mi_C) {l1 : Nat} {l2 : Int32} {o3 : Option Value} {o4 : Option Value} {s5 : Int32} {s6 : Int32} {s7 : Nat} (m8 i8 : Nat) (g8 : Nat → Int32) (h9 : f s7 = .inl (0, m8, .inl g8)) (h10 : s7 < n) (h11 : mi_ix s6 m8 i8) (h12 : s5 < (0 : Int32) → mi_W d 168 102 [some (.ref l1), some (.int l2), o3, o4] [] (n, sl, (va_up f s7 (.inl (0, m8, .inl (upd g8 i8 s5))))) Q) (h13 : ¬ (s5 < (0 : Int32)) → mi_W d 168 98 [some (.ref l1), some (.int l2), o3, o4] [] (n, sl, (va_up f s7 (.inl (0, m8, .inl (upd g8 i8 s5))))) Q) : mi_W d 168 93 [some (.ref l1), some (.int l2), o3, o4] [.int s5, .int s6, .ref s7] (n, sl, f) Q := by
  refine w_dup_x2_iir cd_168_93 ?_
  refine w_iastore cd_168_94 h9 h10 h11 ?_
  exact w_iflt cd_168_95 (by decide) h12 h13
theorem b_168_98 {d : Nat} {Q : (Option Value ⊕ Nat) → mi_H → Prop} (n sl : Nat) (f : Nat → mi_C) {l1 : Nat} {l2 : Int32} {o3 : Option Value} {o4 : Option Value} (h5 : mi_W d 168 103 [some (.ref l1), some (.int l2), o3, o4] [.int 1] (n, sl, f) Q) : mi_W d 168 98 [some (.ref l1), some (.int l2), o3, o4] [] (n, sl, f) Q := by
  refine w_iconst (v := 1) cd_168_98 (by decide) ?_
  exact w_goto cd_168_99 (by decide) h5
theorem b_168_102 {d : Nat} {Q : (Option Value ⊕ Nat) → mi_H → Prop} (n sl : Nat) (f : Nat → mi_C) {l1 : Nat} {l2 : Int32} {o3 : Option Value} {o4 : Option Value} (h5 : mi_W d 168 103 [some (.ref l1), some (.int l2), o3, o4] [.int 0] (n, sl, f) Q) : mi_W d 168 102 [some (.ref l1), some (.int l2), o3, o4] [] (n, sl, f) Q := by
  refine w_iconst (v := 0) cd_168_102 (by decide) ?_
  exact h5
theorem b_168_103 {d : Nat} {Q : (Option Value ⊕ Nat) → mi_H → Prop} (n sl : Nat) (f : Nat → mi_C) {l1 : Nat} {l2 : Int32} {o3 : Option Value} {o4 : Option Value} {s5 : Int32} (h6 : s5 = 0 ∨ s5 = 1) (h7 : Q (.inl (some (.int s5))) (n, sl, f)) : mi_W d 168 103 [some (.ref l1), some (.int l2), o3, o4] [.int s5] (n, sl, f) Q := by
  exact w_ireturn_z cd_168_103 (by decide +kernel) h6 h7
theorem b_168_104 {d : Nat} {Q : (Option Value ⊕ Nat) → mi_H → Prop} (n sl : Nat) (f : Nat → mi_C) {l1 : Nat} {l2 : Int32} {o3 : Option Value} {o4 : Option Value} {fs5 : List Value} {x8 : Nat} {fs10 : List Value} (h6 : f l1 = .inr (12, fs5)) (h7 : l1 < n) (h9 : fs5[13]? = some (.ref x8)) (h11 : f l1 = .inr (12, fs10)) (h12 : l1 < n) (h13 : mi_W d 163 0 (mi_en 5 [.ref l1]) [] (n, sl, f) (mi_Kc d 168 110 [some (.ref l1), some (.int l2), o3, o4] [.int l2, .ref x8] Q)) : mi_W (d + 1) 168 104 [some (.ref l1), some (.int l2), o3, o4] [] (n, sl, f) Q := by
  refine w_aload_n cd_168_104 rfl ?_
  refine w_getfield cd_168_105 (show mt_f 12 80 = some (12, 13) by decide +kernel) h6 h7 h9 ?_
  refine w_iload_n cd_168_108 rfl ?_
  refine w_aload_n cd_168_109 rfl ?_
  exact w_invokevirtual cd_168_110 (show mt_m 12 416 = some (163, 0) by decide +kernel) (rest := [.int l2, .ref x8]) rfl (as := [.ref l1]) rfl h11 (Or.inl h12) ⟨Nat.le_of_ble_eq_true rfl, Nat.le_of_ble_eq_true rfl, Nat.le_of_ble_eq_true rfl⟩ h13
theorem b_168_113 {d : Nat} {Q : (Option Value ⊕ Nat) → mi_H → Prop} (n sl : Nat) (f : Nat → mi_C) {l1 : Nat} {l2 : Int32} {o3 : Option Value} {o4 : Option Value} {s5 : Int32} {s6 : Int32} {s7 : Nat} (m8 i8 : Nat) (g8 : Nat → Int32) (h9 : f s7 = .inl (0, m8, .inl g8)) (h10 : s7 < n) (h11 : mi_ix s6 m8 i8) (h12 : s5 < (0 : Int32) → mi_W d 168 132 [some (.ref l1), some (.int l2), o3, o4] [] (n, sl, (va_up f s7 (.inl (0, m8, .inl (upd g8 i8 s5))))) Q) (h13 : ¬ (s5 < (0 : Int32)) → mi_W d 168 118 [some (.ref l1), some (.int l2), o3, o4] [] (n, sl, (va_up f s7 (.inl (0, m8, .inl (upd g8 i8 s5))))) Q) : mi_W d 168 113 [some (.ref l1), some (.int l2), o3, o4] [.int s5, .int s6, .ref s7] (n, sl, f) Q := by
  refine w_dup_x2_iir cd_168_113 ?_
  refine w_iastore cd_168_114 h9 h10 h11 ?_
  exact w_iflt cd_168_115 (by decide) h12 h13
theorem b_168_118 {d : Nat} {Q : (Option Value ⊕ Nat) → mi_H → Prop} (n sl : Nat) (f : Nat → mi_C) {l1 : Nat} {l2 : Int32} {o3 : Option Value} {o4 : Option Value} {fs5 : List Value} (h6 : f l1 = .inr (12, fs5)) (h7 : l1 < n) (h8 : mi_W d 152 0 (mi_en 2 [.ref l1, .ref (mi_SC + 1 + 2 * 51)]) [] (n, sl, f) (mi_Kc d 168 123 [some (.ref l1), some (.int l2), o3, o4] [.ref l1] Q)) : mi_W (d + 1) 168 118 [some (.ref l1), some (.int l2), o3, o4] [] (n, sl, f) Q := by
  refine w_aload_n cd_168_118 rfl ?_
  refine w_aload_n cd_168_119 rfl ?_
  refine w_ldc_w (n := 51) cd_168_120 (by decide +kernel) ?_
  exact w_invokevirtual cd_168_123 (show mt_m 12 375 = some (152, 0) by decide +kernel) (rest := [.ref l1]) rfl (as := [.ref l1, .ref (mi_SC + 1 + 2 * 51)]) rfl h6 (Or.inl h7) ⟨Nat.le_of_ble_eq_true rfl, Nat.le_of_ble_eq_true rfl, Nat.le_of_ble_eq_true rfl⟩ h8
theorem b_168_126 {d : Nat} {Q : (Option Value ⊕ Nat) → mi_H → Prop} (n sl : Nat) (f : Nat → mi_C) {l1 : Nat} {l2 : Int32} {o3 : Option Value} {o4 : Option Value} {s5 : Int32} {s6 : Nat} {fs7 : List Value} (h8 : f s6 = .inr (12, fs7)) (h9 : s6 < n) (h10 : mi_W d 154 0 (mi_en 2 [.ref s6, .int s5]) [] (n, sl, f) (mi_Kc d 168 126 [some (.ref l1), some (.int l2), o3, o4] [] Q)) : mi_W (d + 1) 168 126 [some (.ref l1), some (.int l2), o3, o4] [.int s5, .ref s6] (n, sl, f) Q := by
  exact w_invokevirtual cd_168_126 (show mt_m 12 383 = some (154, 0) by decide +kernel) (rest := []) rfl (as := [.ref s6, .int s5]) rfl h8 (Or.inl h9) ⟨Nat.le_of_ble_eq_true rfl, Nat.le_of_ble_eq_true rfl, Nat.le_of_ble_eq_true rfl⟩ h10
theorem b_168_129 {d : Nat} {Q : (Option Value ⊕ Nat) → mi_H → Prop} (n sl : Nat) (f : Nat → mi_C) {l1 : Nat} {l2 : Int32} {o3 : Option Value} {o4 : Option Value} {s5 : Int32} (h6 : ¬ s5 = (0 : Int32) → mi_W d 168 134 [some (.ref l1), some (.int l2), o3, o4] [] (n, sl, f) Q) (h7 : ¬ (¬ s5 = (0 : Int32)) → mi_W d 168 132 [some (.ref l1), some (.int l2), o3, o4] [] (n, sl, f) Q) : mi_W d 168 129 [some (.ref l1), some (.int l2), o3, o4] [.int s5] (n, sl, f) Q := by
  exact w_ifne cd_168_129 (by decide) h6 h7
theorem b_168_132 {d : Nat} {Q : (Option Value ⊕ Nat) → mi_H → Prop} (n sl : Nat) (f : Nat → mi_C) {l1 : Nat} {l2 : Int32} {o3 : Option Value} {o4 : Option Value} (h5 : Q (.inl (some (.int 0))) (n, sl, f)) : mi_W d 168 132 [some (.ref l1), some (.int l2), o3, o4] [] (n, sl, f) Q := by
  refine w_iconst (v := 0) cd_168_132 (by decide) ?_
  exact w_ireturn_z cd_168_133 (by decide +kernel) (by decide) h5
theorem b_168_134 {d : Nat} {Q : (Option Value ⊕ Nat) → mi_H → Prop} (n sl : Nat) (f : Nat → mi_C) {l1 : Nat} {l2 : Int32} {o3 : Option Value} {o4 : Option Value} {fs5 : List Value} {x8 : Nat} {fs10 : List Value} {x13 : Int32} (m15 i15 : Nat) (g15 : Nat → Int32) {fs19 : List Value} {x22 : Nat} (m24 i24 : Nat) (g24 : Nat → Int32) (h6 : f l1 = .inr (12, fs5)) (h7 : l1 < n) (h9 : fs5[40]? = some (.ref x8)) (h11 : f l1 = .inr (12, fs10)) (h12 : l1 < n) (h14 : fs10[23]? = some (.int x13)) (h16 : f x8 = .inl (0, m15, .inl g15)) (h17 : x8 < n) (h18 : mi_ix l2 m15 i15) (h20 : (va_up f x8 (.inl (0, m15, .inl (upd g15 i15 x13)))) l1 = .inr (12, fs19)) (h21 : l1 < n) (h23 : fs19[18]? = some (.ref x22)) (h25 : (va_up f x8 (.inl (0, m15, .inl (upd g15 i15 x13)))) x22 = .inl (0, m24, .inl g24)) (h26 : x22 < n) (h27 : mi_ix l2 m24 i24) (h28 : mi_W d 168 151 [some (.ref l1), some (.int l2), o3, o4] [] (n, sl, (va_up (va_up f x8 (.inl (0, m15, .inl (upd g15 i15 x13)))) x22 (.inl (0, m24, .inl (upd g24 i24 0))))) Q) : mi_W d 168 134 [some (.ref l1), some (.int l2), o3, o4] [] (n, sl, f) Q := by
  refine w_aload_n cd_168_134 rfl ?_
  refine w_getfield cd_168_135 (show mt_f 12 141 = some (12, 40) by decide +kernel) h6 h7 h9 ?_
  refine w_iload_n cd_168_138 rfl ?_
  refine w_aload_n cd_168_139 rfl ?_
  refine w_getfield cd_168_140 (show mt_f 12 340 = some (12, 23) by decide +kernel) h11 h12 h14 ?_
  refine w_iastore cd_168_143 h16 h17 h18 ?_
  refine w_aload_n cd_168_144 rfl ?_
  refine w_getfield cd_168_145 (show mt_f 12 95 = some (12, 18) by decide +kernel) h20 h21 h23 ?_
  refine w_iload_n cd_168_148 rfl ?_
  refine w_iconst (v := 0) cd_168_149 (by decide) ?_
  refine w_iastore cd_168_150 h25 h26 h27 ?_
  exact h28
theorem b_168_151 {d : Nat} {Q : (Option Value ⊕ Nat) → mi_H → Prop} (n sl : Nat) (f : Nat → mi_C) {l1 : Nat} {l2 : Int32} {o3 : Option Value} {o4 : Option Value} {fs5 : List Value} {x8 : Int32} (h6 : f l1 = .inr (12, fs5)) (h7 : l1 < n) (h9 : fs5[8]? = some (.int x8)) (h10 : x8 = 2 → mi_W d 168 168 [some (.ref l1), some (.int l2), o3, o4] [] (n, sl, f) Q) (h11 : ¬ (x8 = 2) → mi_W d 168 159 [some (.ref l1), some (.int l2), o3, o4] [] (n, sl, f) Q) : mi_W d 168 151 [some (.ref l1), some (.int l2), o3, o4] [] (n, sl, f) Q := by
  refine w_aload_n cd_168_151 rfl ?_
  refine w_getfield cd_168_152 (show mt_f 12 310 = some (12, 8) by decide +kernel) h6 h7 h9 ?_
  refine w_iconst (v := 2) cd_168_155 (by decide) ?_
  exact w_if_icmpeq cd_168_156 (by decide) h10 h11
theorem b_168_159 {d : Nat} {Q : (Option Value ⊕ Nat) → mi_H → Prop} (n sl : Nat) (f : Nat → mi_C) {l1 : Nat} {l2 : Int32} {o3 : Option Value} {o4 : Option Value} {fs5 : List Value} {x8 : Int32} {fs10 : List Value} (h6 : f l1 = .inr (12, fs5)) (h7 : l1 < n) (h9 : fs5[9]? = some (.int x8)) (h11 : f l1 = .inr (12, fs10)) (h12 : l1 < n) (h13 : mi_W d 142 0 (mi_en 2 [.ref l1, .int x8]) [] (n, sl, f) (mi_Kc d 168 164 [some (.ref l1), some (.int l2), o3, o4] [] Q)) : mi_W (d + 1) 168 159 [some (.ref l1), some (.int l2), o3, o4] [] (n, sl, f) Q := by
  refine w_aload_n cd_168_159 rfl ?_
  refine w_aload_n cd_168_160 rfl ?_
  refine w_getfield cd_168_161 (show mt_f 12 299 = some (12, 9) by decide +kernel) h6 h7 h9 ?_
  exact w_invokevirtual cd_168_164 (show mt_m 12 272 = some (142, 0) by decide +kernel) (rest := []) rfl (as := [.ref l1, .int x8]) rfl h11 (Or.inl h12) ⟨Nat.le_of_ble_eq_true rfl, Nat.le_of_ble_eq_true rfl, Nat.le_of_ble_eq_true rfl⟩ h13
theorem b_168_167 {d : Nat} {Q : (Option Value ⊕ Nat) → mi_H → Prop} (n sl : Nat) (f : Nat → mi_C) {l1 : Nat} {l2 : Int32} {o3 : Option Value} {o4 : Option Value} {s5 : Int32} (h6 : s5 = 0 ∨ s5 = 1) (h7 : Q (.inl (some (.int s5))) (n, sl, f)) : mi_W d 168 167 [some (.ref l1), some (.int l2), o3, o4] [.int s5] (n, sl, f) Q := by
  exact w_ireturn_z cd_168_167 (by decide +kernel) h6 h7
theorem b_168_168 {d : Nat} {Q : (Option Value ⊕ Nat) → mi_H → Prop} (n sl : Nat) (f : Nat → mi_C) {l1 : Nat} {l2 : Int32} {o3 : Option Value} {o4 : Option Value} {fs5 : List Value} {x8 : Int64} {fs10 : List Value} (h6 : f l1 = .inr (12, fs5)) (h7 : l1 < n) (h9 : fs5[11]? = some (.long x8)) (h11 : f l1 = .inr (12, fs10)) (h12 : l1 < n) (h13 : mi_W d 144 0 (mi_en 4 [.ref l1]) [] (n, sl, f) (mi_Kc d 168 174 [some (.ref l1), some (.int l2), some (.long x8), none] [] Q)) : mi_W (d + 1) 168 168 [some (.ref l1), some (.int l2), o3, o4] [] (n, sl, f) Q := by
  refine w_aload_n cd_168_168 rfl ?_
  refine w_getfield cd_168_169 (show mt_f 12 327 = some (12, 11) by decide +kernel) h6 h7 h9 ?_
  refine w_lstore_n (ls' := [some (.ref l1), some (.int l2), some (.long x8), none]) cd_168_172 (Nat.le_of_ble_eq_true rfl) rfl ?_
  refine w_aload_n cd_168_173 rfl ?_
  exact w_invokevirtual cd_168_174 (show mt_m 12 333 = some (144, 0) by decide +kernel) (rest := []) rfl (as := [.ref l1]) rfl h11 (Or.inl h12) ⟨Nat.le_of_ble_eq_true rfl, Nat.le_of_ble_eq_true rfl, Nat.le_of_ble_eq_true rfl⟩ h13
theorem b_168_177 {d : Nat} {Q : (Option Value ⊕ Nat) → mi_H → Prop} (n sl : Nat) (f : Nat → mi_C) {l1 : Nat} {l2 : Int32} {l3 : Int64} {s4 : Int32} (h5 : ¬ s4 = (0 : Int32) → mi_W d 168 182 [some (.ref l1), some (.int l2), some (.long l3), none] [] (n, sl, f) Q) (h6 : ¬ (¬ s4 = (0 : Int32)) → mi_W d 168 180 [some (.ref l1), some (.int l2), some (.long l3), none] [] (n, sl, f) Q) : mi_W d 168 177 [some (.ref l1), some (.int l2), some (.long l3), none] [.int s4] (n, sl, f) Q := by
  exact w_ifne cd_168_177 (by decide) h5 h6
theorem b_168_180 {d : Nat} {Q : (Option Value ⊕ Nat) → mi_H → Prop} (n sl : Nat) (f : Nat → mi_C) {l1 : Nat} {l2 : Int32} {l3 : Int64} (h4 : Q (.inl (some (.int 0))) (n, sl, f)) : mi_W d 168 180 [some (.ref l1), some (.int l2), some (.long l3), none] [] (n, sl, f) Q := by
  refine w_iconst (v := 0) cd_168_180 (by decide) ?_
  exact w_ireturn_z cd_168_181 (by decide +kernel) (by decide) h4
theorem b_168_182 {d : Nat} {Q : (Option Value ⊕ Nat) → mi_H → Prop} (n sl : Nat) (f : Nat → mi_C) {l1 : Nat} {l2 : Int32} {l3 : Int64} {fs4 : List Value} {x7 : Int32} (h5 : f l1 = .inr (12, fs4)) (h6 : l1 < n) (h8 : fs4[8]? = some (.int x7)) (h9 : ¬ x7 = 2 → mi_W d 168 199 [some (.ref l1), some (.int l2), some (.long l3), none] [] (n, sl, f) Q) (h10 : ¬ (¬ x7 = 2) → mi_W d 168 190 [some (.ref l1), some (.int l2), some (.long l3), none] [] (n, sl, f) Q) : mi_W d 168 182 [some (.ref l1), some (.int l2), some (.long l3), none] [] (n, sl, f) Q := by
  refine w_aload_n cd_168_182 rfl ?_
  refine w_getfield cd_168_183 (show mt_f 12 310 = some (12, 8) by decide +kernel) h5 h6 h8 ?_
  refine w_iconst (v := 2) cd_168_186 (by decide) ?_
  exact w_if_icmpne cd_168_187 (by decide) h9 h10
theorem b_168_190 {d : Nat} {Q : (Option Value ⊕ Nat) → mi_H → Prop} (n sl : Nat) (f : Nat → mi_C) {l1 : Nat} {l2 : Int32} {l3 : Int64} {fs4 : List Value} {x7 : Int64} (h5 : f l1 = .inr (12, fs4)) (h6 : l1 < n) (h8 : fs4[11]? = some (.long x7)) (h9 : (0 : Int32) ≤ (lg_cmp x7 l3) → mi_W d 168 208 [some (.ref l1), some (.int l2), some (.long l3), none] [] (n, sl, f) Q) (h10 : ¬ ((0 : Int32) ≤ (lg_cmp x7 l3)) → mi_W d 168 199 [some (.ref l1), some (.int l2), some (.long l3), none] [] (n, sl, f) Q) : mi_W d 168 190 [some (.ref l1), some (.int l2), some (.long l3), none] [] (n, sl, f) Q := by
  refine w_aload_n cd_168_190 rfl ?_
  refine w_getfield cd_168_191 (show mt_f 12 327 = some (12, 11) by decide +kernel) h5 h6 h8 ?_
  refine w_lload_n cd_168_194 rfl ?_
  refine w_lcmp cd_168_195 ?_
  exact w_ifge cd_168_196 (by decide) h9 h10
theorem b_168_199 {d : Nat} {Q : (Option Value ⊕ Nat) → mi_H → Prop} (n sl : Nat) (f : Nat → mi_C) {l1 : Nat} {l2 : Int32} {l3 : Int64} {fs4 : List Value} {x7 : Int32} {fs9 : List Value} (h5 : f l1 = .inr (12, fs4)) (h6 : l1 < n) (h8 : fs4[9]? = some (.int x7)) (h10 : f l1 = .inr (12, fs9)) (h11 : l1 < n) (h12 : mi_W d 142 0 (mi_en 2 [.ref l1, .int x7]) [] (n, sl, f) (mi_Kc d 168 204 [some (.ref l1), some (.int l2), some (.long l3), none] [] Q)) : mi_W (d + 1) 168 199 [some (.ref l1), some (.int l2), some (.long l3), none] [] (n, sl, f) Q := by
  refine w_aload_n cd_168_199 rfl ?_
  refine w_aload_n cd_168_200 rfl ?_
  refine w_getfield cd_168_201 (show mt_f 12 299 = some (12, 9) by decide +kernel) h5 h6 h8 ?_
  exact w_invokevirtual cd_168_204 (show mt_m 12 272 = some (142, 0) by decide +kernel) (rest := []) rfl (as := [.ref l1, .int x7]) rfl h10 (Or.inl h11) ⟨Nat.le_of_ble_eq_true rfl, Nat.le_of_ble_eq_true rfl, Nat.le_of_ble_eq_true rfl⟩ h12
theorem b_168_207 {d : Nat} {Q : (Option Value ⊕ Nat) → mi_H → Prop} (n sl : Nat) (f : Nat → mi_C) {l1 : Nat} {l2 : Int32} {l3 : Int64} {s4 : Int32} (h5 : s4 = 0 ∨ s4 = 1) (h6 : Q (.inl (some (.int s4))) (n, sl, f)) : mi_W d 168 207 [some (.ref l1), some (.int l2), some (.long l3), none] [.int s4] (n, sl, f) Q := by
  exact w_ireturn_z cd_168_207 (by decide +kernel) h5 h6
theorem b_168_208 {d : Nat} {Q : (Option Value ⊕ Nat) → mi_H → Prop} (n sl : Nat) (f : Nat → mi_C) {l1 : Nat} {l2 : Int32} {l3 : Int64} {fs4 : List Value} {x7 : Nat} {fs9 : List Value} {x12 : Int32} (m14 i14 : Nat) (g14 : Nat → Int64) {fs18 : List Value} {x21 : Nat} {fs23 : List Value} {x26 : Int32} {fs28 : List Value} {fs32 : List Value} {x35 : Int64} (m37 i37 : Nat) (g37 : Nat → Int64) {fs41 : List Value} {x44 : Nat} (m46 i46 : Nat) (g46 : Nat → Int32) (m50 i50 : Nat) (g50 : Nat → Int32) {fs54 : List Value} (h5 : f l1 = .inr (12, fs4)) (h6 : l1 < n) (h8 : fs4[28]? = some (.ref x7)) (h10 : f l1 = .inr (12, fs9)) (h11 : l1 < n) (h13 : fs9[23]? = some (.int x12)) (h15 : f x7 = .inl (3, m14, .inr (.inl g14))) (h16 : x7 < n) (h17 : mi_ix x12 m14 i14) (h19 : (va_up f x7 (.inl (3, m14, .inr (.inl (vp_updL g14 i14 l3))))) l1 = .inr (12, fs18)) (h20 : l1 < n) (h22 : fs18[29]? = some (.ref x21)) (h24 : (va_up f x7 (.inl (3, m14, .inr (.inl (vp_updL g14 i14 l3))))) l1 = .inr (12, fs23)) (h25 : l1 < n) (h27 : fs23[23]? = some (.int x26)) (h29 : (va_up f x7 (.inl (3, m14, .inr (.inl (vp_updL g14 i14 l3))))) l1 = .inr (12, fs28)) (h30 : l1 < n) (h31 : 23 < fs28.length) (h33 : (va_up (va_up f x7 (.inl (3, m14, .inr (.inl (vp_updL g14 i14 l3))))) l1 (.inr (12, fs28.set 23 (.int (x26 + 1))))) l1 = .inr (12, fs32)) (h34 : l1 < n) (h36 : fs32[11]? = some (.long x35)) (h38 : (va_up (va_up f x7 (.inl (3, m14, .inr (.inl (vp_updL g14 i14 l3))))) l1 (.inr (12, fs28.set 23 (.int (x26 + 1))))) x21 = .inl (3, m37, .inr (.inl g37))) (h39 : x21 < n) (h40 : mi_ix x26 m37 i37) (h42 : (va_up (va_up (va_up f x7 (.inl (3, m14, .inr (.inl (vp_updL g14 i14 l3))))) l1 (.inr (12, fs28.set 23 (.int (x26 + 1))))) x21 (.inl (3, m37, .inr (.inl (vp_updL g37 i37 x35))))) l1 = .inr (12, fs41)) (h43 : l1 < n) (h45 : fs41[18]? = some (.ref x44)) (h47 : (va_up (va_up (va_up f x7 (.inl (3, m14, .inr (.inl (vp_updL g14 i14 l3))))) l1 (.inr (12, fs28.set 23 (.int (x26 + 1))))) x21 (.inl (3, m37, .inr (.inl (vp_updL g37 i37 x35))))) x44 = .inl (0, m46, .inl g46)) (h48 : x44 < n ∨ x44 = mi_SC) (h49 : mi_ix l2 m46 i46) (h51 : (va_up (va_up (va_up f x7 (.inl (3, m14, .inr (.inl (vp_updL g14 i14 l3))))) l1 (.inr (12, fs28.set 23 (.int (x26 + 1))))) x21 (.inl (3, m37, .inr (.inl (vp_updL g37 i37 x35))))) x44 = .inl (0, m50, .inl g50)) (h52 : x44 < n) (h53 : mi_ix l2 m50 i50) (h55 : (va_up (va_up (va_up (va_up f x7 (.inl (3, m14, .inr (.inl (vp_updL g14 i14 l3))))) l1 (.inr (12, fs28.set 23 (.int (x26 + 1))))) x21 (.inl (3, m37, .inr (.inl (vp_updL g37 i37 x35))))) x44 (.inl (0, m50, .inl (upd g50 i50 ((g46 i46) + 1))))) l1 = .inr (12, fs54)) (h56 : l1 < n) (h57 : mi_W d 144 0 (mi_en 4 [.ref l1]) [] (n, sl, (va_up (va_up (va_up (va_up f x7 (.inl (3, m14, .inr (.inl (vp_updL g14 i14 l3))))) l1 (.inr (12, fs28.set 23 (.int (x26 + 1))))) x21 (.inl (3, m37, .inr (.inl (vp_updL g37 i37 x35))))) x44 (.inl (0, m50, .inl (upd g50 i50 ((g46 i46) + 1)))))) (mi_Kc d 168 249 [some (.ref l1), some (.int l2), some (.long l3), none] [] Q)) : mi_W (d + 1) 168 208 [some (.ref l1), some (.int l2), some (.long l3), none] [] (n, sl, f) Q := by
  refine w_aload_n cd_168_208 rfl ?_
  refine w_getfield cd_168_209 (show mt_f 12 105 = some (12, 28) by decide +kernel) h5 h6 h8 ?_
  refine w_aload_n cd_168_212 rfl ?_
  refine w_getfield cd_168_213 (show mt_f 12 340 = some (12, 23) by decide +kernel) h10 h11 h13 ?_
  refine w_lload_n cd_168_216 rfl ?_
  refine w_lastore cd_168_217 h15 h16 h17 ?_
  refine w_aload_n cd_168_218 rfl ?_
  refine w_getfield cd_168_219 (show mt_f 12 108 = some (12, 29) by decide +kernel) h19 h20 h22 ?_
  refine w_aload_n cd_168_222 rfl ?_
  refine w_dup_r cd_168_223 ?_
  refine w_getfield cd_168_224 (show mt_f 12 340 = some (12, 23) by decide +kernel) h24 h25 h27 ?_
  refine w_dup_x1_ir cd_168_227 ?_
  refine w_iconst (v := 1) cd_168_228 (by decide) ?_
  refine w_iadd cd_168_229 ?_
  refine w_putfield (w := .int (x26 + 1)) cd_168_230 (show mt_f 12 340 = some (12, 23) by decide +kernel) h29 h30 ⟨h31, rfl, Or.inl (by decide)⟩ ?_
  refine w_aload_n cd_168_233 rfl ?_
  refine w_getfield cd_168_234 (show mt_f 12 327 = some (12, 11) by decide +kernel) h33 h34 h36 ?_
  refine w_lastore cd_168_237 h38 h39 h40 ?_
  refine w_aload_n cd_168_238 rfl ?_
  refine w_getfield cd_168_239 (show mt_f 12 95 = some (12, 18) by decide +kernel) h42 h43 h45 ?_
  refine w_iload_n cd_168_242 rfl ?_
  refine w_dup2_ir cd_168_243 ?_
  refine w_iaload cd_168_244 h47 h48 h49 ?_
  refine w_iconst (v := 1) cd_168_245 (by decide) ?_
  refine w_iadd cd_168_246 ?_
  refine w_iastore cd_168_247 h51 h52 h53 ?_
  refine w_aload_n cd_168_248 rfl ?_
  exact w_invokevirtual cd_168_249 (show mt_m 12 333 = some (144, 0) by decide +kernel) (rest := []) rfl (as := [.ref l1]) rfl h55 (Or.inl h56) ⟨Nat.le_of_ble_eq_true rfl, Nat.le_of_ble_eq_true rfl, Nat.le_of_ble_eq_true rfl⟩ h57
theorem b_168_252 {d : Nat} {Q : (Option Value ⊕ Nat) → mi_H → Prop} (n sl : Nat) (f : Nat → mi_C) {l1 : Nat} {l2 : Int32} {l3 : Int64} {s4 : Int32} (h5 : ¬ s4 = (0 : Int32) → mi_W d 168 257 [some (.ref l1), some (.int l2), some (.long l3), none] [] (n, sl, f) Q) (h6 : ¬ (¬ s4 = (0 : Int32)) → mi_W d 168 255 [some (.ref l1), some (.int l2), some (.long l3), none] [] (n, sl, f) Q) : mi_W d 168 252 [some (.ref l1), some (.int l2), some (.long l3), none] [.int s4] (n, sl, f) Q := by
  exact w_ifne cd_168_252 (by decide) h5 h6
theorem b_168_255 {d : Nat} {Q : (Option Value ⊕ Nat) → mi_H → Prop} (n sl : Nat) (f : Nat → mi_C) {l1 : Nat} {l2 : Int32} {l3 : Int64} (h4 : Q (.inl (some (.int 0))) (n, sl, f)) : mi_W d 168 255 [some (.ref l1), some (.int l2), some (.long l3), none] [] (n, sl, f) Q := by
  refine w_iconst (v := 0) cd_168_255 (by decide) ?_
  exact w_ireturn_z cd_168_256 (by decide +kernel) (by decide) h4
theorem b_168_257 {d : Nat} {Q : (Option Value ⊕ Nat) → mi_H → Prop} (n sl : Nat) (f : Nat → mi_C) {l1 : Nat} {l2 : Int32} {l3 : Int64} {fs4 : List Value} (h5 : f l1 = .inr (12, fs4)) (h6 : l1 < n) (h7 : mi_W d 152 0 (mi_en 2 [.ref l1, .ref (mi_SC + 1 + 2 * 52)]) [] (n, sl, f) (mi_Kc d 168 261 [some (.ref l1), some (.int l2), some (.long l3), none] [] Q)) : mi_W (d + 1) 168 257 [some (.ref l1), some (.int l2), some (.long l3), none] [] (n, sl, f) Q := by
  refine w_aload_n cd_168_257 rfl ?_
  refine w_ldc_w (n := 52) cd_168_258 (by decide +kernel) ?_
  exact w_invokevirtual cd_168_261 (show mt_m 12 375 = some (152, 0) by decide +kernel) (rest := []) rfl (as := [.ref l1, .ref (mi_SC + 1 + 2 * 52)]) rfl h5 (Or.inl h6) ⟨Nat.le_of_ble_eq_true rfl, Nat.le_of_ble_eq_true rfl, Nat.le_of_ble_eq_true rfl⟩ h7
theorem b_168_264 {d : Nat} {Q : (Option Value ⊕ Nat) → mi_H → Prop} (n sl : Nat) (f : Nat → mi_C) {l1 : Nat} {l2 : Int32} {l3 : Int64} {s4 : Int32} (h5 : s4 = (0 : Int32) → mi_W d 168 151 [some (.ref l1), some (.int l2), some (.long l3), none] [] (n, sl, f) Q) (h6 : ¬ (s4 = (0 : Int32)) → mi_W d 168 267 [some (.ref l1), some (.int l2), some (.long l3), none] [] (n, sl, f) Q) : mi_W d 168 264 [some (.ref l1), some (.int l2), some (.long l3), none] [.int s4] (n, sl, f) Q := by
  exact w_ifeq cd_168_264 (by decide) h5 h6
theorem b_168_267 {d : Nat} {Q : (Option Value ⊕ Nat) → mi_H → Prop} (n sl : Nat) (f : Nat → mi_C) {l1 : Nat} {l2 : Int32} {l3 : Int64} {fs4 : List Value} (h5 : f l1 = .inr (12, fs4)) (h6 : l1 < n) (h7 : mi_W d 144 0 (mi_en 4 [.ref l1]) [] (n, sl, f) (mi_Kc d 168 268 [some (.ref l1), some (.int l2), some (.long l3), none] [] Q)) : mi_W (d + 1) 168 267 [some (.ref l1), some (.int l2), some (.long l3), none] [] (n, sl, f) Q := by
  refine w_aload_n cd_168_267 rfl ?_
  exact w_invokevirtual cd_168_268 (show mt_m 12 333 = some (144, 0) by decide +kernel) (rest := []) rfl (as := [.ref l1]) rfl h5 (Or.inl h6) ⟨Nat.le_of_ble_eq_true rfl, Nat.le_of_ble_eq_true rfl, Nat.le_of_ble_eq_true rfl⟩ h7
theorem b_168_271 {d : Nat} {Q : (Option Value ⊕ Nat) → mi_H → Prop} (n sl : Nat) (f : Nat → mi_C) {l1 : Nat} {l2 : Int32} {l3 : Int64} {s4 : Int32} (h5 : s4 = 0 ∨ s4 = 1) (h6 : Q (.inl (some (.int s4))) (n, sl, f)) : mi_W d 168 271 [some (.ref l1), some (.int l2), some (.long l3), none] [.int s4] (n, sl, f) Q := by
  exact w_ireturn_z cd_168_271 (by decide +kernel) h5 h6
/-! MarloweHostModel$State.begin()V -/
theorem cd_169_0 : mt_cd 169 0 = some (.aload_n 0) := by decide +kernel
theorem cd_169_1 : mt_cd 169 1 = some (.iconst 0) := by decide +kernel
theorem cd_169_2 : mt_cd 169 2 = some (.putfield 28) := by decide +kernel
theorem cd_169_5 : mt_cd 169 5 = some (.aload_n 0) := by decide +kernel
theorem cd_169_6 : mt_cd 169 6 = some (.lconst 0) := by decide +kernel
theorem cd_169_7 : mt_cd 169 7 = some (.putfield 32) := by decide +kernel
theorem cd_169_10 : mt_cd 169 10 = some (.iconst 0) := by decide +kernel
theorem cd_169_11 : mt_cd 169 11 = some (.istore_n 1) := by decide +kernel
theorem cd_169_12 : mt_cd 169 12 = some (.iload_n 1) := by decide +kernel
theorem cd_169_13 : mt_cd 169 13 = some (.bipush 32) := by decide +kernel
theorem cd_169_15 : mt_cd 169 15 = some (.if_icmp .ge 16) := by decide +kernel
theorem cd_169_18 : mt_cd 169 18 = some (.aload_n 0) := by decide +kernel
theorem cd_169_19 : mt_cd 169 19 = some (.getfield 9) := by decide +kernel
theorem cd_169_22 : mt_cd 169 22 = some (.iload_n 1) := by decide +kernel
theorem cd_169_23 : mt_cd 169 23 = some (.lconst 0) := by decide +kernel
theorem cd_169_24 : mt_cd 169 24 = some (.lastore) := by decide +kernel
theorem cd_169_25 : mt_cd 169 25 = some (.iinc 1 1) := by decide +kernel
theorem cd_169_28 : mt_cd 169 28 = some (.goto (-16)) := by decide +kernel
theorem cd_169_31 : mt_cd 169 31 = some (.iconst 0) := by decide +kernel
theorem cd_169_32 : mt_cd 169 32 = some (.istore_n 1) := by decide +kernel
theorem cd_169_33 : mt_cd 169 33 = some (.iload_n 1) := by decide +kernel
theorem cd_169_34 : mt_cd 169 34 = some (.bipush 8) := by decide +kernel
theorem cd_169_36 : mt_cd 169 36 = some (.if_icmp .ge 37) := by decide +kernel
theorem cd_169_39 : mt_cd 169 39 = some (.aload_n 0) := by decide +kernel
theorem cd_169_40 : mt_cd 169 40 = some (.getfield 15) := by decide +kernel
theorem cd_169_43 : mt_cd 169 43 = some (.iload_n 1) := by decide +kernel
theorem cd_169_44 : mt_cd 169 44 = some (.lconst 0) := by decide +kernel
theorem cd_169_45 : mt_cd 169 45 = some (.lastore) := by decide +kernel
theorem cd_169_46 : mt_cd 169 46 = some (.aload_n 0) := by decide +kernel
theorem cd_169_47 : mt_cd 169 47 = some (.getfield 18) := by decide +kernel
theorem cd_169_50 : mt_cd 169 50 = some (.iload_n 1) := by decide +kernel
theorem cd_169_51 : mt_cd 169 51 = some (.lconst 0) := by decide +kernel
theorem cd_169_52 : mt_cd 169 52 = some (.lastore) := by decide +kernel
theorem cd_169_53 : mt_cd 169 53 = some (.aload_n 0) := by decide +kernel
theorem cd_169_54 : mt_cd 169 54 = some (.getfield 21) := by decide +kernel
theorem cd_169_57 : mt_cd 169 57 = some (.iload_n 1) := by decide +kernel
theorem cd_169_58 : mt_cd 169 58 = some (.iconst 0) := by decide +kernel
theorem cd_169_59 : mt_cd 169 59 = some (.bastore) := by decide +kernel
theorem cd_169_60 : mt_cd 169 60 = some (.aload_n 0) := by decide +kernel
theorem cd_169_61 : mt_cd 169 61 = some (.getfield 25) := by decide +kernel
theorem cd_169_64 : mt_cd 169 64 = some (.iload_n 1) := by decide +kernel
theorem cd_169_65 : mt_cd 169 65 = some (.iconst 0) := by decide +kernel
theorem cd_169_66 : mt_cd 169 66 = some (.bastore) := by decide +kernel
theorem cd_169_67 : mt_cd 169 67 = some (.iinc 1 1) := by decide +kernel
theorem cd_169_70 : mt_cd 169 70 = some (.goto (-37)) := by decide +kernel
theorem cd_169_73 : mt_cd 169 73 = some (.return_) := by decide +kernel
theorem b_169_0 {d : Nat} {Q : (Option Value ⊕ Nat) → mi_H → Prop} (n sl : Nat) (f : Nat → mi_C) {l1 : Nat} {o2 : Option Value} {fs3 : List Value} {fs7 : List Value} (h4 : f l1 = .inr (13, fs3)) (h5 : l1 < n) (h6 : 0 < fs3.length) (h8 : (va_up f l1 (.inr (13, fs3.set 0 (.int 0)))) l1 = .inr (13, fs7)) (h9 : l1 < n) (h10 : 1 < fs7.length) (h11 : mi_W d 169 12 [some (.ref l1), some (.int 0)] [] (n, sl, (va_up (va_up f l1 (.inr (13, fs3.set 0 (.int 0)))) l1 (.inr (13, fs7.set 1 (.long 0))))) Q) : mi_W d 169 0 [some (.ref l1), o2] [] (n, sl, f) Q := by
  refine w_aload_n cd_169_0 rfl ?_
  refine w_iconst (v := 0) cd_169_1 (by decide) ?_
  refine w_putfield (w := .int 0) cd_169_2 (show mt_f 13 28 = some (13, 0) by decide +kernel) h4 h5 ⟨h6, rfl, Or.inl (by decide)⟩ ?_
  refine w_aload_n cd_169_5 rfl ?_
  refine w_lconst (lv := 0) cd_169_6 (by decide) ?_
  refine w_putfield (w := .long 0) cd_169_7 (show mt_f 13 32 = some (13, 1) by decide +kernel) h8 h9 ⟨h10, rfl, Or.inl (by decide)⟩ ?_
  refine w_iconst (v := 0) cd_169_10 (by decide) ?_
  refine w_istore_n (ls' := [some (.ref l1), some (.int 0)]) cd_169_11 (Nat.le_of_ble_eq_true rfl) rfl ?_
  exact h11
theorem b_169_12 {d : Nat} {Q : (Option Value ⊕ Nat) → mi_H → Prop} (n sl : Nat) (f : Nat → mi_C) {l1 : Nat} {l2 : Int32} (h3 : 32 ≤ l2 → mi_W d 169 31 [some (.ref l1), some (.int l2)] [] (n, sl, f) Q) (h4 : ¬ (32 ≤ l2) → mi_W d 169 18 [some (.ref l1), some (.int l2)] [] (n, sl, f) Q) : mi_W d 169 12 [some (.ref l1), some (.int l2)] [] (n, sl, f) Q := by
  refine w_iload_n cd_169_12 rfl ?_
  refine w_bipush (v := 32) cd_169_13 (by decide) ?_
  exact w_if_icmpge cd_169_15 (by decide) h3 h4
theorem b_169_18 {d : Nat} {Q : (Option Value ⊕ Nat) → mi_H → Prop} (n sl : Nat) (f : Nat → mi_C) {l1 : Nat} {l2 : Int32} {fs3 : List Value} {x6 : Nat} (m8 i8 : Nat) (g8 : Nat → Int64) (h4 : f l1 = .inr (13, fs3)) (h5 : l1 < n) (h7 : fs3[2]? = some (.ref x6)) (h9 : f x6 = .inl (3, m8, .inr (.inl g8))) (h10 : x6 < n) (h11 : mi_ix l2 m8 i8) (h12 : mi_W d 169 12 [some (.ref l1), some (.int (l2 + 1))] [] (n, sl, (va_up f x6 (.inl (3, m8, .inr (.inl (vp_updL g8 i8 0)))))) Q) : mi_W d 169 18 [some (.ref l1), some (.int l2)] [] (n, sl, f) Q := by
  refine w_aload_n cd_169_18 rfl ?_
  refine w_getfield cd_169_19 (show mt_f 13 9 = some (13, 2) by decide +kernel) h4 h5 h7 ?_
  refine w_iload_n cd_169_22 rfl ?_
  refine w_lconst (lv := 0) cd_169_23 (by decide) ?_
  refine w_lastore cd_169_24 h9 h10 h11 ?_
  refine w_iinc (v := 1) (ls' := [some (.ref l1), some (.int (l2 + 1))]) cd_169_25 rfl (by decide) rfl ?_
  exact w_goto cd_169_28 (by decide) h12
theorem b_169_31 {d : Nat} {Q : (Option Value ⊕ Nat) → mi_H → Prop} (n sl : Nat) (f : Nat → mi_C) {l1 : Nat} {l2 : Int32} (h3 : mi_W d 169 33 [some (.ref l1), some (.int 0)] [] (n, sl, f) Q) : mi_W d 169 31 [some (.ref l1), some (.int l2)] [] (n, sl, f) Q := by
  refine w_iconst (v := 0) cd_169_31 (by decide) ?_
  refine w_istore_n (ls' := [some (.ref l1), some (.int 0)]) cd_169_32 (Nat.le_of_ble_eq_true rfl) rfl ?_
  exact h3
theorem b_169_33 {d : Nat} {Q : (Option Value ⊕ Nat) → mi_H → Prop} (n sl : Nat) (f : Nat → mi_C) {l1 : Nat} {l2 : Int32} (h3 : 8 ≤ l2 → mi_W d 169 73 [some (.ref l1), some (.int l2)] [] (n, sl, f) Q) (h4 : ¬ (8 ≤ l2) → mi_W d 169 39 [some (.ref l1), some (.int l2)] [] (n, sl, f) Q) : mi_W d 169 33 [some (.ref l1), some (.int l2)] [] (n, sl, f) Q := by
  refine w_iload_n cd_169_33 rfl ?_
  refine w_bipush (v := 8) cd_169_34 (by decide) ?_
  exact w_if_icmpge cd_169_36 (by decide) h3 h4
theorem b_169_39 {d : Nat} {Q : (Option Value ⊕ Nat) → mi_H → Prop} (n sl : Nat) (f : Nat → mi_C) {l1 : Nat} {l2 : Int32} {fs3 : List Value} {x6 : Nat} (m8 i8 : Nat) (g8 : Nat → Int64) {fs12 : List Value} {x15 : Nat} (m17 i17 : Nat) (g17 : Nat → Int64) {fs21 : List Value} {x24 : Nat} (m26 i26 : Nat) (g26 : Nat → Int32) {fs30 : List Value} {x33 : Nat} (m35 i35 : Nat) (g35 : Nat → Int32) (h4 : f l1 = .inr (13, fs3)) (h5 : l1 < n) (h7 : fs3[3]? = some (.ref x6)) (h9 : f x6 = .inl (3, m8, .inr (.inl g8))) (h10 : x6 < n) (h11 : mi_ix l2 m8 i8) (h13 : (va_up f x6 (.inl (3, m8, .inr (.inl (vp_updL g8 i8 0))))) l1 = .inr (13, fs12)) (h14 : l1 < n) (h16 : fs12[4]? = some (.ref x15)) (h18 : (va_up f x6 (.inl (3, m8, .inr (.inl (vp_updL g8 i8 0))))) x15 = .inl (3, m17, .inr (.inl g17))) (h19 : x15 < n) (h20 : mi_ix l2 m17 i17) (h22 : (va_up (va_up f x6 (.inl (3, m8, .inr (.inl (vp_updL g8 i8 0))))) x15 (.inl (3, m17, .inr (.inl (vp_updL g17 i17 0))))) l1 = .inr (13, fs21)) (h23 : l1 < n) (h25 : fs21[5]? = some (.ref x24)) (h27 : (va_up (va_up f x6 (.inl (3, m8, .inr (.inl (vp_updL g8 i8 0))))) x15 (.inl (3, m17, .inr (.inl (vp_updL g17 i17 0))))) x24 = .inl (2, m26, .inl g26)) (h28 : x24 < n) (h29 : mi_ix l2 m26 i26) (h31 : (va_up (va_up (va_up f x6 (.inl (3, m8, .inr (.inl (vp_updL g8 i8 0))))) x15 (.inl (3, m17, .inr (.inl (vp_updL g17 i17 0))))) x24 (.inl (2, m26, .inl (upd g26 i26 (vp_nar .boolean 0))))) l1 = .inr (13, fs30)) (h32 : l1 < n) (h34 : fs30[6]? = some (.ref x33)) (h36 : (va_up (va_up (va_up f x6 (.inl (3, m8, .inr (.inl (vp_updL g8 i8 0))))) x15 (.inl (3, m17, .inr (.inl (vp_updL g17 i17 0))))) x24 (.inl (2, m26, .inl (upd g26 i26 (vp_nar .boolean 0))))) x33 = .inl (2, m35, .inl g35)) (h37 : x33 < n) (h38 : mi_ix l2 m35 i35) (h39 : mi_W d 169 33 [some (.ref l1), some (.int (l2 + 1))] [] (n, sl, (va_up (va_up (va_up (va_up f x6 (.inl (3, m8, .inr (.inl (vp_updL g8 i8 0))))) x15 (.inl (3, m17, .inr (.inl (vp_updL g17 i17 0))))) x24 (.inl (2, m26, .inl (upd g26 i26 (vp_nar .boolean 0))))) x33 (.inl (2, m35, .inl (upd g35 i35 (vp_nar .boolean 0)))))) Q) : mi_W d 169 39 [some (.ref l1), some (.int l2)] [] (n, sl, f) Q := by
  refine w_aload_n cd_169_39 rfl ?_
  refine w_getfield cd_169_40 (show mt_f 13 15 = some (13, 3) by decide +kernel) h4 h5 h7 ?_
  refine w_iload_n cd_169_43 rfl ?_
  refine w_lconst (lv := 0) cd_169_44 (by decide) ?_
  refine w_lastore cd_169_45 h9 h10 h11 ?_
  refine w_aload_n cd_169_46 rfl ?_
  refine w_getfield cd_169_47 (show mt_f 13 18 = some (13, 4) by decide +kernel) h13 h14 h16 ?_
  refine w_iload_n cd_169_50 rfl ?_
  refine w_lconst (lv := 0) cd_169_51 (by decide) ?_
  refine w_lastore cd_169_52 h18 h19 h20 ?_
  refine w_aload_n cd_169_53 rfl ?_
  refine w_getfield cd_169_54 (show mt_f 13 21 = some (13, 5) by decide +kernel) h22 h23 h25 ?_
  refine w_iload_n cd_169_57 rfl ?_
  refine w_iconst (v := 0) cd_169_58 (by decide) ?_
  refine w_bastore2 cd_169_59 h27 h28 h29 ?_
  refine w_aload_n cd_169_60 rfl ?_
  refine w_getfield cd_169_61 (show mt_f 13 25 = some (13, 6) by decide +kernel) h31 h32 h34 ?_
  refine w_iload_n cd_169_64 rfl ?_
  refine w_iconst (v := 0) cd_169_65 (by decide) ?_
  refine w_bastore2 cd_169_66 h36 h37 h38 ?_
  refine w_iinc (v := 1) (ls' := [some (.ref l1), some (.int (l2 + 1))]) cd_169_67 rfl (by decide) rfl ?_
  exact w_goto cd_169_70 (by decide) h39
theorem b_169_73 {d : Nat} {Q : (Option Value ⊕ Nat) → mi_H → Prop} (n sl : Nat) (f : Nat → mi_C) {l1 : Nat} {l2 : Int32} (h3 : Q (.inl none) (n, sl, f)) : mi_W d 169 73 [some (.ref l1), some (.int l2)] [] (n, sl, f) Q := by
  exact w_return cd_169_73 (by decide +kernel) h3
/-! MarloweHostModel.wrong()I -/
theorem cd_170_0 : mt_cd 170 0 = some (.aload_n 0) := by decide +kernel
theorem cd_170_1 : mt_cd 170 1 = some (.iconst 0) := by decide +kernel
theorem cd_170_2 : mt_cd 170 2 = some (.putfield 248) := by decide +kernel
theorem cd_170_5 : mt_cd 170 5 = some (.aload_n 0) := by decide +kernel
theorem cd_170_6 : mt_cd 170 6 = some (.getfield 7) := by decide +kernel
theorem cd_170_9 : mt_cd 170 9 = some (.ireturn) := by decide +kernel
theorem b_170_0 {d : Nat} {Q : (Option Value ⊕ Nat) → mi_H → Prop} (n sl : Nat) (f : Nat → mi_C) {l1 : Nat} {fs2 : List Value} {fs6 : List Value} {x9 : Int32} (h3 : f l1 = .inr (12, fs2)) (h4 : l1 < n) (h5 : 0 < fs2.length) (h7 : (va_up f l1 (.inr (12, fs2.set 0 (.int 0)))) l1 = .inr (12, fs6)) (h8 : l1 < n) (h10 : fs6[3]? = some (.int x9)) (h11 : Q (.inl (some (.int x9))) (n, sl, (va_up f l1 (.inr (12, fs2.set 0 (.int 0)))))) : mi_W d 170 0 [some (.ref l1)] [] (n, sl, f) Q := by
  refine w_aload_n cd_170_0 rfl ?_
  refine w_iconst (v := 0) cd_170_1 (by decide) ?_
  refine w_putfield (w := .int 0) cd_170_2 (show mt_f 12 248 = some (12, 0) by decide +kernel) h3 h4 ⟨h5, rfl, Or.inl (by decide)⟩ ?_
  refine w_aload_n cd_170_5 rfl ?_
  refine w_getfield cd_170_6 (show mt_f 12 7 = some (12, 3) by decide +kernel) h7 h8 h10 ?_
  exact w_ireturn_i cd_170_9 (by decide +kernel) h11
/-! MarloweHostModel.apply(JJ)I -/
theorem cd_171_0 : mt_cd 171 0 = some (.aload_n 0) := by decide +kernel
theorem cd_171_1 : mt_cd 171 1 = some (.iconst 0) := by decide +kernel
theorem cd_171_2 : mt_cd 171 2 = some (.putfield 248) := by decide +kernel
theorem cd_171_5 : mt_cd 171 5 = some (.aload_n 0) := by decide +kernel
theorem cd_171_6 : mt_cd 171 6 = some (.aload_n 0) := by decide +kernel
theorem cd_171_7 : mt_cd 171 7 = some (.getfield 13) := by decide +kernel
theorem cd_171_10 : mt_cd 171 10 = some (.ifCond .ge 7) := by decide +kernel
theorem cd_171_13 : mt_cd 171 13 = some (.iconst 1) := by decide +kernel
theorem cd_171_14 : mt_cd 171 14 = some (.goto 4) := by decide +kernel
theorem cd_171_17 : mt_cd 171 17 = some (.iconst 0) := by decide +kernel
theorem cd_171_18 : mt_cd 171 18 = some (.iconst 1) := by decide +kernel
theorem cd_171_19 : mt_cd 171 19 = some (.invokevirtual 254) := by decide +kernel
theorem cd_171_22 : mt_cd 171 22 = some (.ifCond .eq 5) := by decide +kernel
theorem cd_171_25 : mt_cd 171 25 = some (.iconst 0) := by decide +kernel
theorem cd_171_26 : mt_cd 171 26 = some (.ireturn) := by decide +kernel
theorem cd_171_27 : mt_cd 171 27 = some (.aload_n 0) := by decide +kernel
theorem cd_171_28 : mt_cd 171 28 = some (.aload_n 0) := by decide +kernel
theorem cd_171_29 : mt_cd 171 29 = some (.getfield 151) := by decide +kernel
theorem cd_171_32 : mt_cd 171 32 = some (.putfield 445) := by decide +kernel
theorem cd_171_35 : mt_cd 171 35 = some (.aload_n 0) := by decide +kernel
theorem cd_171_36 : mt_cd 171 36 = some (.getfield 445) := by decide +kernel
theorem cd_171_39 : mt_cd 171 39 = some (.aload_n 0) := by decide +kernel
theorem cd_171_40 : mt_cd 171 40 = some (.getfield 147) := by decide +kernel
theorem cd_171_43 : mt_cd 171 43 = some (.invokevirtual 525) := by decide +kernel
theorem cd_171_46 : mt_cd 171 46 = some (.aload_n 0) := by decide +kernel
theorem cd_171_47 : mt_cd 171 47 = some (.iconst 1) := by decide +kernel
theorem cd_171_48 : mt_cd 171 48 = some (.putfield 513) := by decide +kernel
theorem cd_171_51 : mt_cd 171 51 = some (.aload_n 0) := by decide +kernel
theorem cd_171_52 : mt_cd 171 52 = some (.lload_n 1) := by decide +kernel
theorem cd_171_53 : mt_cd 171 53 = some (.lload_n 3) := by decide +kernel
theorem cd_171_54 : mt_cd 171 54 = some (.aload_n 0) := by decide +kernel
theorem cd_171_55 : mt_cd 171 55 = some (.getfield 258) := by decide +kernel
theorem cd_171_58 : mt_cd 171 58 = some (.invokevirtual 529) := by decide +kernel
theorem cd_171_61 : mt_cd 171 61 = some (.istore 5) := by decide +kernel
theorem cd_171_63 : mt_cd 171 63 = some (.aload_n 0) := by decide +kernel
theorem cd_171_64 : mt_cd 171 64 = some (.iconst 0) := by decide +kernel
theorem cd_171_65 : mt_cd 171 65 = some (.putfield 258) := by decide +kernel
theorem cd_171_68 : mt_cd 171 68 = some (.iload 5) := by decide +kernel
theorem cd_171_70 : mt_cd 171 70 = some (.ifCond .ne 9) := by decide +kernel
theorem cd_171_73 : mt_cd 171 73 = some (.aload_n 0) := by decide +kernel
theorem cd_171_74 : mt_cd 171 74 = some (.invokevirtual 533) := by decide +kernel
theorem cd_171_77 : mt_cd 171 77 = some (.istore 5) := by decide +kernel
theorem cd_171_79 : mt_cd 171 79 = some (.iload 5) := by decide +kernel
theorem cd_171_81 : mt_cd 171 81 = some (.ifCond .ne 17) := by decide +kernel
theorem cd_171_84 : mt_cd 171 84 = some (.aload_n 0) := by decide +kernel
theorem cd_171_85 : mt_cd 171 85 = some (.getfield 147) := by decide +kernel
theorem cd_171_88 : mt_cd 171 88 = some (.aload_n 0) := by decide +kernel
theorem cd_171_89 : mt_cd 171 89 = some (.getfield 151) := by decide +kernel
theorem cd_171_92 : mt_cd 171 92 = some (.invokevirtual 525) := by decide +kernel
theorem cd_171_95 : mt_cd 171 95 = some (.goto 13) := by decide +kernel
theorem cd_171_98 : mt_cd 171 98 = some (.aload_n 0) := by decide +kernel
theorem cd_171_99 : mt_cd 171 99 = some (.iconst 0) := by decide +kernel
theorem cd_171_100 : mt_cd 171 100 = some (.putfield 490) := by decide +kernel
theorem cd_171_103 : mt_cd 171 103 = some (.aload_n 0) := by decide +kernel
theorem cd_171_104 : mt_cd 171 104 = some (.iconst 0) := by decide +kernel
theorem cd_171_105 : mt_cd 171 105 = some (.putfield 493) := by decide +kernel
theorem cd_171_108 : mt_cd 171 108 = some (.aload_n 0) := by decide +kernel
theorem cd_171_109 : mt_cd 171 109 = some (.aload_n 0) := by decide +kernel
theorem cd_171_110 : mt_cd 171 110 = some (.getfield 490) := by decide +kernel
theorem cd_171_113 : mt_cd 171 113 = some (.putfield 536) := by decide +kernel
theorem cd_171_116 : mt_cd 171 116 = some (.aload_n 0) := by decide +kernel
theorem cd_171_117 : mt_cd 171 117 = some (.aload_n 0) := by decide +kernel
theorem cd_171_118 : mt_cd 171 118 = some (.getfield 493) := by decide +kernel
theorem cd_171_121 : mt_cd 171 121 = some (.putfield 539) := by decide +kernel
theorem cd_171_124 : mt_cd 171 124 = some (.iconst 0) := by decide +kernel
theorem cd_171_125 : mt_cd 171 125 = some (.istore 6) := by decide +kernel
theorem cd_171_127 : mt_cd 171 127 = some (.iload 6) := by decide +kernel
theorem cd_171_129 : mt_cd 171 129 = some (.aload_n 0) := by decide +kernel
theorem cd_171_130 : mt_cd 171 130 = some (.getfield 490) := by decide +kernel
theorem cd_171_133 : mt_cd 171 133 = some (.if_icmp .ge 37) := by decide +kernel
theorem cd_171_136 : mt_cd 171 136 = some (.aload_n 0) := by decide +kernel
theorem cd_171_137 : mt_cd 171 137 = some (.getfield 193) := by decide +kernel
theorem cd_171_140 : mt_cd 171 140 = some (.iload 6) := by decide +kernel
theorem cd_171_142 : mt_cd 171 142 = some (.aload_n 0) := by decide +kernel
theorem cd_171_143 : mt_cd 171 143 = some (.getfield 154) := by decide +kernel
theorem cd_171_146 : mt_cd 171 146 = some (.iload 6) := by decide +kernel
theorem cd_171_148 : mt_cd 171 148 = some (.iaload) := by decide +kernel
theorem cd_171_149 : mt_cd 171 149 = some (.iastore) := by decide +kernel
theorem cd_171_150 : mt_cd 171 150 = some (.aload_n 0) := by decide +kernel
theorem cd_171_151 : mt_cd 171 151 = some (.getfield 196) := by decide +kernel
theorem cd_171_154 : mt_cd 171 154 = some (.iload 6) := by decide +kernel
theorem cd_171_156 : mt_cd 171 156 = some (.aload_n 0) := by decide +kernel
theorem cd_171_157 : mt_cd 171 157 = some (.getfield 157) := by decide +kernel
theorem cd_171_160 : mt_cd 171 160 = some (.iload 6) := by decide +kernel
theorem cd_171_162 : mt_cd 171 162 = some (.iaload) := by decide +kernel
theorem cd_171_163 : mt_cd 171 163 = some (.iastore) := by decide +kernel
theorem cd_171_164 : mt_cd 171 164 = some (.iinc 6 1) := by decide +kernel
theorem cd_171_167 : mt_cd 171 167 = some (.goto (-40)) := by decide +kernel
theorem cd_171_170 : mt_cd 171 170 = some (.iconst 0) := by decide +kernel
theorem cd_171_171 : mt_cd 171 171 = some (.istore 6) := by decide +kernel
theorem cd_171_173 : mt_cd 171 173 = some (.iload 6) := by decide +kernel
theorem cd_171_175 : mt_cd 171 175 = some (.aload_n 0) := by decide +kernel
theorem cd_171_176 : mt_cd 171 176 = some (.getfield 493) := by decide +kernel
theorem cd_171_179 : mt_cd 171 179 = some (.if_icmp .ge 65) := by decide +kernel
theorem cd_171_182 : mt_cd 171 182 = some (.aload_n 0) := by decide +kernel
theorem cd_171_183 : mt_cd 171 183 = some (.getfield 199) := by decide +kernel
theorem cd_171_186 : mt_cd 171 186 = some (.iload 6) := by decide +kernel
theorem cd_171_188 : mt_cd 171 188 = some (.aload_n 0) := by decide +kernel
theorem cd_171_189 : mt_cd 171 189 = some (.getfield 160) := by decide +kernel
theorem cd_171_192 : mt_cd 171 192 = some (.iload 6) := by decide +kernel
theorem cd_171_194 : mt_cd 171 194 = some (.iaload) := by decide +kernel
theorem cd_171_195 : mt_cd 171 195 = some (.iastore) := by decide +kernel
theorem cd_171_196 : mt_cd 171 196 = some (.aload_n 0) := by decide +kernel
theorem cd_171_197 : mt_cd 171 197 = some (.getfield 202) := by decide +kernel
theorem cd_171_200 : mt_cd 171 200 = some (.iload 6) := by decide +kernel
theorem cd_171_202 : mt_cd 171 202 = some (.aload_n 0) := by decide +kernel
theorem cd_171_203 : mt_cd 171 203 = some (.getfield 163) := by decide +kernel
theorem cd_171_206 : mt_cd 171 206 = some (.iload 6) := by decide +kernel
theorem cd_171_208 : mt_cd 171 208 = some (.iaload) := by decide +kernel
theorem cd_171_209 : mt_cd 171 209 = some (.iastore) := by decide +kernel
theorem cd_171_210 : mt_cd 171 210 = some (.aload_n 0) := by decide +kernel
theorem cd_171_211 : mt_cd 171 211 = some (.getfield 205) := by decide +kernel
theorem cd_171_214 : mt_cd 171 214 = some (.iload 6) := by decide +kernel
theorem cd_171_216 : mt_cd 171 216 = some (.aload_n 0) := by decide +kernel
theorem cd_171_217 : mt_cd 171 217 = some (.getfield 166) := by decide +kernel
theorem cd_171_220 : mt_cd 171 220 = some (.iload 6) := by decide +kernel
theorem cd_171_222 : mt_cd 171 222 = some (.iaload) := by decide +kernel
theorem cd_171_223 : mt_cd 171 223 = some (.iastore) := by decide +kernel
theorem cd_171_224 : mt_cd 171 224 = some (.aload_n 0) := by decide +kernel
theorem cd_171_225 : mt_cd 171 225 = some (.getfield 208) := by decide +kernel
theorem cd_171_228 : mt_cd 171 228 = some (.iload 6) := by decide +kernel
theorem cd_171_230 : mt_cd 171 230 = some (.aload_n 0) := by decide +kernel
theorem cd_171_231 : mt_cd 171 231 = some (.getfield 169) := by decide +kernel
theorem cd_171_234 : mt_cd 171 234 = some (.iload 6) := by decide +kernel
theorem cd_171_236 : mt_cd 171 236 = some (.laload) := by decide +kernel
theorem cd_171_237 : mt_cd 171 237 = some (.lastore) := by decide +kernel
theorem cd_171_238 : mt_cd 171 238 = some (.iinc 6 1) := by decide +kernel
theorem cd_171_241 : mt_cd 171 241 = some (.goto (-68)) := by decide +kernel
theorem cd_171_244 : mt_cd 171 244 = some (.iload 5) := by decide +kernel
theorem cd_171_246 : mt_cd 171 246 = some (.ireturn) := by decide +kernel
theorem b_171_0 {d : Nat} {Q : (Option Value ⊕ Nat) → mi_H → Prop} (n sl : Nat) (f : Nat → mi_C) {l1 : Nat} {l2 : Int64} {l3 : Int64} {o4 : Option Value} {o5 : Option Value} {fs6 : List Value} {fs10 : List Value} {x13 : Int32} (h7 : f l1 = .inr (12, fs6)) (h8 : l1 < n) (h9 : 0 < fs6.length) (h11 : (va_up f l1 (.inr (12, fs6.set 0 (.int 0)))) l1 = .inr (12, fs10)) (h12 : l1 < n) (h14 : fs10[4]? = some (.int x13)) (h15 : (0 : Int32) ≤ x13 → mi_W d 171 17 [some (.ref l1), some (.long l2), none, some (.long l3), none, o4, o5] [.ref l1] (n, sl, (va_up f l1 (.inr (12, fs6.set 0 (.int 0))))) Q) (h16 : ¬ ((0 : Int32) ≤ x13) → mi_W d 171 13 [some (.ref l1), some (.long l2), none, some (.long l3), none, o4, o5] [.ref l1] (n, sl, (va_up f l1 (.inr (12, fs6.set 0 (.int 0))))) Q) : mi_W d 171 0 [some (.ref l1), some (.long l2), none, some (.long l3), none, o4, o5] [] (n, sl, f) Q := by
  refine w_aload_n cd_171_0 rfl ?_
  refine w_iconst (v := 0) cd_171_1 (by decide) ?_
  refine w_putfield (w := .int 0) cd_171_2 (show mt_f 12 248 = some (12, 0) by decide +kernel) h7 h8 ⟨h9, rfl, Or.inl (by decide)⟩ ?_
  refine w_aload_n cd_171_5 rfl ?_
  refine w_aload_n cd_171_6 rfl ?_
  refine w_getfield cd_171_7 (show mt_f 12 13 = some (12, 4) by decide +kernel) h11 h12 h14 ?_
  exact w_ifge cd_171_10 (by decide) h15 h16
theorem b_171_13 {d : Nat} {Q : (Option Value ⊕ Nat) → mi_H → Prop} (n sl : Nat) (f : Nat → mi_C) {l1 : Nat} {l2 : Int64} {l3 : Int64} {o4 : Option Value} {o5 : Option Value} {s6 : Nat} (h7 : mi_W d 171 18 [some (.ref l1), some (.long l2), none, some (.long l3), none, o4, o5] [.int 1, .ref s6] (n, sl, f) Q) : mi_W d 171 13 [some (.ref l1), some (.long l2), none, some (.long l3), none, o4, o5] [.ref s6] (n, sl, f) Q := by
  refine w_iconst (v := 1) cd_171_13 (by decide) ?_
  exact w_goto cd_171_14 (by decide) h7
theorem b_171_17 {d : Nat} {Q : (Option Value ⊕ Nat) → mi_H → Prop} (n sl : Nat) (f : Nat → mi_C) {l1 : Nat} {l2 : Int64} {l3 : Int64} {o4 : Option Value} {o5 : Option Value} {s6 : Nat} (h7 : mi_W d 171 18 [some (.ref l1), some (.long l2), none, some (.long l3), none, o4, o5] [.int 0, .ref s6] (n, sl, f) Q) : mi_W d 171 17 [some (.ref l1), some (.long l2), none, some (.long l3), none, o4, o5] [.ref s6] (n, sl, f) Q := by
  refine w_iconst (v := 0) cd_171_17 (by decide) ?_
  exact h7
theorem b_171_18 {d : Nat} {Q : (Option Value ⊕ Nat) → mi_H → Prop} (n sl : Nat) (f : Nat → mi_C) {l1 : Nat} {l2 : Int64} {l3 : Int64} {o4 : Option Value} {o5 : Option Value} {s6 : Int32} {s7 : Nat} {fs8 : List Value} (h9 : f s7 = .inr (12, fs8)) (h10 : s7 < n) (h11 : mi_W d 139 0 (mi_en 3 [.ref s7, .int s6, .int 1]) [] (n, sl, f) (mi_Kc d 171 19 [some (.ref l1), some (.long l2), none, some (.long l3), none, o4, o5] [] Q)) : mi_W (d + 1) 171 18 [some (.ref l1), some (.long l2), none, some (.long l3), none, o4, o5] [.int s6, .ref s7] (n, sl, f) Q := by
  refine w_iconst (v := 1) cd_171_18 (by decide) ?_
  exact w_invokevirtual cd_171_19 (show mt_m 12 254 = some (139, 0) by decide +kernel) (rest := []) rfl (as := [.ref s7, .int s6, .int 1]) rfl h9 (Or.inl h10) ⟨Nat.le_of_ble_eq_true rfl, Nat.le_of_ble_eq_true rfl, Nat.le_of_ble_eq_true rfl⟩ h11
theorem b_171_22 {d : Nat} {Q : (Option Value ⊕ Nat) → mi_H → Prop} (n sl : Nat) (f : Nat → mi_C) {l1 : Nat} {l2 : Int64} {l3 : Int64} {o4 : Option Value} {o5 : Option Value} {s6 : Int32} (h7 : s6 = (0 : Int32) → mi_W d 171 27 [some (.ref l1), some (.long l2), none, some (.long l3), none, o4, o5] [] (n, sl, f) Q) (h8 : ¬ (s6 = (0 : Int32)) → mi_W d 171 25 [some (.ref l1), some (.long l2), none, some (.long l3), none, o4, o5] [] (n, sl, f) Q) : mi_W d 171 22 [some (.ref l1), some (.long l2), none, some (.long l3), none, o4, o5] [.int s6] (n, sl, f) Q := by
  exact w_ifeq cd_171_22 (by decide) h7 h8
theorem b_171_25 {d : Nat} {Q : (Option Value ⊕ Nat) → mi_H → Prop} (n sl : Nat) (f : Nat → mi_C) {l1 : Nat} {l2 : Int64} {l3 : Int64} {o4 : Option Value} {o5 : Option Value} (h6 : Q (.inl (some (.int 0))) (n, sl, f)) : mi_W d 171 25 [some (.ref l1), some (.long l2), none, some (.long l3), none, o4, o5] [] (n, sl, f) Q := by
  refine w_iconst (v := 0) cd_171_25 (by decide) ?_
  exact w_ireturn_i cd_171_26 (by decide +kernel) h6
theorem b_171_27 {d : Nat} {Q : (Option Value ⊕ Nat) → mi_H → Prop} (n sl : Nat) (f : Nat → mi_C) {l1 : Nat} {l2 : Int64} {l3 : Int64} {o4 : Option Value} {o5 : Option Value} {fs6 : List Value} {x9 : Nat} {fs11 : List Value} {fs15 : List Value} {x18 : Nat} {fs20 : List Value} {x23 : Nat} {fs25 : List Value} (h7 : f l1 = .inr (12, fs6)) (h8 : l1 < n) (h10 : fs6[42]? = some (.ref x9)) (h12 : f l1 = .inr (12, fs11)) (h13 : l1 < n) (h14 : 43 < fs11.length) (h16 : (va_up f l1 (.inr (12, fs11.set 43 (.ref x9)))) l1 = .inr (12, fs15)) (h17 : l1 < n) (h19 : fs15[43]? = some (.ref x18)) (h21 : (va_up f l1 (.inr (12, fs11.set 43 (.ref x9)))) l1 = .inr (12, fs20)) (h22 : l1 < n) (h24 : fs20[41]? = some (.ref x23)) (h26 : (va_up f l1 (.inr (12, fs11.set 43 (.ref x9)))) x18 = .inr (13, fs25)) (h27 : x18 < n) (h28 : mi_W d 172 0 (mi_en 3 [.ref x18, .ref x23]) [] (n, sl, (va_up f l1 (.inr (12, fs11.set 43 (.ref x9))))) (mi_Kc d 171 43 [some (.ref l1), some (.long l2), none, some (.long l3), none, o4, o5] [] Q)) : mi_W (d + 1) 171 27 [some (.ref l1), some (.long l2), none, some (.long l3), none, o4, o5] [] (n, sl, f) Q := by
  refine w_aload_n cd_171_27 rfl ?_
  refine w_aload_n cd_171_28 rfl ?_
  refine w_getfield cd_171_29 (show mt_f 12 151 = some (12, 42) by decide +kernel) h7 h8 h10 ?_
  refine w_putfield (w := .ref x9) cd_171_32 (show mt_f 12 445 = some (12, 43) by decide +kernel) h12 h13 ⟨h14, rfl, Or.inl (by decide)⟩ ?_
  refine w_aload_n cd_171_35 rfl ?_
  refine w_getfield cd_171_36 (show mt_f 12 445 = some (12, 43) by decide +kernel) h16 h17 h19 ?_
  refine w_aload_n cd_171_39 rfl ?_
  refine w_getfield cd_171_40 (show mt_f 12 147 = some (12, 41) by decide +kernel) h21 h22 h24 ?_
  exact w_invokevirtual cd_171_43 (show mt_m 12 525 = some (172, 0) by decide +kernel) (rest := []) rfl (as := [.ref x18, .ref x23]) rfl h26 (Or.inl h27) ⟨Nat.le_of_ble_eq_true rfl, Nat.le_of_ble_eq_true rfl, Nat.le_of_ble_eq_true rfl⟩ h28
theorem b_171_46 {d : Nat} {Q : (Option Value ⊕ Nat) → mi_H → Prop} (n sl : Nat) (f : Nat → mi_C) {l1 : Nat} {l2 : Int64} {l3 : Int64} {o4 : Option Value} {o5 : Option Value} {fs6 : List Value} {fs11 : List Value} {x14 : Int32} {fs16 : List Value} (h7 : f l1 = .inr (12, fs6)) (h8 : l1 < n) (h9 : 57 < fs6.length) (h10 : mi_fk .boolean (.int 1) = true) (h12 : (va_up f l1 (.inr (12, fs6.set 57 (.int 1)))) l1 = .inr (12, fs11)) (h13 : l1 < n) (h15 : fs11[59]? = some (.int x14)) (h17 : (va_up f l1 (.inr (12, fs6.set 57 (.int 1)))) l1 = .inr (12, fs16)) (h18 : l1 < n) (h19 : mi_W d 173 0 (mi_en 8 [.ref l1, .long l2, .long l3, .int x14]) [] (n, sl, (va_up f l1 (.inr (12, fs6.set 57 (.int 1))))) (mi_Kc d 171 58 [some (.ref l1), some (.long l2), none, some (.long l3), none, o4, o5] [] Q)) : mi_W (d + 1) 171 46 [some (.ref l1), some (.long l2), none, some (.long l3), none, o4, o5] [] (n, sl, f) Q := by
  refine w_aload_n cd_171_46 rfl ?_
  refine w_iconst (v := 1) cd_171_47 (by decide) ?_
  refine w_putfield (w := .int 1) cd_171_48 (show mt_f 12 513 = some (12, 57) by decide +kernel) h7 h8 ⟨h9, h10, Or.inl (by decide)⟩ ?_
  refine w_aload_n cd_171_51 rfl ?_
  refine w_lload_n cd_171_52 rfl ?_
  refine w_lload_n cd_171_53 rfl ?_
  refine w_aload_n cd_171_54 rfl ?_
  refine w_getfield cd_171_55 (show mt_f 12 258 = some (12, 59) by decide +kernel) h12 h13 h15 ?_
  exact w_invokevirtual cd_171_58 (show mt_m 12 529 = some (173, 0) by decide +kernel) (rest := []) rfl (as := [.ref l1, .long l2, .long l3, .int x14]) rfl h17 (Or.inl h18) ⟨Nat.le_of_ble_eq_true rfl, Nat.le_of_ble_eq_true rfl, Nat.le_of_ble_eq_true rfl⟩ h19
theorem b_171_61 {d : Nat} {Q : (Option Value ⊕ Nat) → mi_H → Prop} (n sl : Nat) (f : Nat → mi_C) {l1 : Nat} {l2 : Int64} {l3 : Int64} {o4 : Option Value} {o5 : Option Value} {s6 : Int32} {fs7 : List Value} (h8 : f l1 = .inr (12, fs7)) (h9 : l1 < n) (h10 : 59 < fs7.length) (h11 : ¬ s6 = (0 : Int32) → mi_W d 171 79 [some (.ref l1), some (.long l2), none, some (.long l3), none, some (.int s6), o5] [] (n, sl, (va_up f l1 (.inr (12, fs7.set 59 (.int 0))))) Q) (h12 : ¬ (¬ s6 = (0 : Int32)) → mi_W d 171 73 [some (.ref l1), some (.long l2), none, some (.long l3), none, some (.int s6), o5] [] (n, sl, (va_up f l1 (.inr (12, fs7.set 59 (.int 0))))) Q) : mi_W d 171 61 [some (.ref l1), some (.long l2), none, some (.long l3), none, o4, o5] [.int s6] (n, sl, f) Q := by
  refine w_istore (ls' := [some (.ref l1), some (.long l2), none, some (.long l3), none, some (.int s6), o5]) cd_171_61 (Nat.le_of_ble_eq_true rfl) rfl ?_
  refine w_aload_n cd_171_63 rfl ?_
  refine w_iconst (v := 0) cd_171_64 (by decide) ?_
  refine w_putfield (w := .int 0) cd_171_65 (show mt_f 12 258 = some (12, 59) by decide +kernel) h8 h9 ⟨h10, rfl, Or.inl (by decide)⟩ ?_
  refine w_iload cd_171_68 rfl ?_
  exact w_ifne cd_171_70 (by decide) h11 h12
theorem b_171_73 {d : Nat} {Q : (Option Value ⊕ Nat) → mi_H → Prop} (n sl : Nat) (f : Nat → mi_C) {l1 : Nat} {l2 : Int64} {l3 : Int64} {l4 : Int32} {o5 : Option Value} {fs6 : List Value} (h7 : f l1 = .inr (12, fs6)) (h8 : l1 < n) (h9 : mi_W d 184 0 (mi_en 6 [.ref l1]) [] (n, sl, f) (mi_Kc d 171 74 [some (.ref l1), some (.long l2), none, some (.long l3), none, some (.int l4), o5] [] Q)) : mi_W (d + 1) 171 73 [some (.ref l1), some (.long l2), none, some (.long l3), none, some (.int l4), o5] [] (n, sl, f) Q := by
  refine w_aload_n cd_171_73 rfl ?_
  exact w_invokevirtual cd_171_74 (show mt_m 12 533 = some (184, 0) by decide +kernel) (rest := []) rfl (as := [.ref l1]) rfl h7 (Or.inl h8) ⟨Nat.le_of_ble_eq_true rfl, Nat.le_of_ble_eq_true rfl, Nat.le_of_ble_eq_true rfl⟩ h9
theorem b_171_77 {d : Nat} {Q : (Option Value ⊕ Nat) → mi_H → Prop} (n sl : Nat) (f : Nat → mi_C) {l1 : Nat} {l2 : Int64} {l3 : Int64} {l4 : Int32} {o5 : Option Value} {s6 : Int32} (h7 : mi_W d 171 79 [some (.ref l1), some (.long l2), none, some (.long l3), none, some (.int s6), o5] [] (n, sl, f) Q) : mi_W d 171 77 [some (.ref l1), some (.long l2), none, some (.long l3), none, some (.int l4), o5] [.int s6] (n, sl, f) Q := by
  refine w_istore (ls' := [some (.ref l1), some (.long l2), none, some (.long l3), none, some (.int s6), o5]) cd_171_77 (Nat.le_of_ble_eq_true rfl) rfl ?_
  exact h7
theorem b_171_79 {d : Nat} {Q : (Option Value ⊕ Nat) → mi_H → Prop} (n sl : Nat) (f : Nat → mi_C) {l1 : Nat} {l2 : Int64} {l3 : Int64} {l4 : Int32} {o5 : Option Value} (h6 : ¬ l4 = (0 : Int32) → mi_W d 171 98 [some (.ref l1), some (.long l2), none, some (.long l3), none, some (.int l4), o5] [] (n, sl, f) Q) (h7 : ¬ (¬ l4 = (0 : Int32)) → mi_W d 171 84 [some (.ref l1), some (.long l2), none, some (.long l3), none, some (.int l4), o5] [] (n, sl, f) Q) : mi_W d 171 79 [some (.ref l1), some (.long l2), none, some (.long l3), none, some (.int l4), o5] [] (n, sl, f) Q := by
  refine w_iload cd_171_79 rfl ?_
  exact w_ifne cd_171_81 (by decide) h6 h7
theorem b_171_84 {d : Nat} {Q : (Option Value ⊕ Nat) → mi_H → Prop} (n sl : Nat) (f : Nat → mi_C) {l1 : Nat} {l2 : Int64} {l3 : Int64} {l4 : Int32} {o5 : Option Value} {fs6 : List Value} {x9 : Nat} {fs11 : List Value} {x14 : Nat} {fs16 : List Value} (h7 : f l1 = .inr (12, fs6)) (h8 : l1 < n) (h10 : fs6[41]? = some (.ref x9)) (h12 : f l1 = .inr (12, fs11)) (h13 : l1 < n) (h15 : fs11[42]? = some (.ref x14)) (h17 : f x9 = .inr (13, fs16)) (h18 : x9 < n) (h19 : mi_W d 172 0 (mi_en 3 [.ref x9, .ref x14]) [] (n, sl, f) (mi_Kc d 171 92 [some (.ref l1), some (.long l2), none, some (.long l3), none, some (.int l4), o5] [] Q)) : mi_W (d + 1) 171 84 [some (.ref l1), some (.long l2), none, some (.long l3), none, some (.int l4), o5] [] (n, sl, f) Q := by
  refine w_aload_n cd_171_84 rfl ?_
  refine w_getfield cd_171_85 (show mt_f 12 147 = some (12, 41) by decide +kernel) h7 h8 h10 ?_
  refine w_aload_n cd_171_88 rfl ?_
  refine w_getfield cd_171_89 (show mt_f 12 151 = some (12, 42) by decide +kernel) h12 h13 h15 ?_
  exact w_invokevirtual cd_171_92 (show mt_m 12 525 = some (172, 0) by decide +kernel) (rest := []) rfl (as := [.ref x9, .ref x14]) rfl h17 (Or.inl h18) ⟨Nat.le_of_ble_eq_true rfl, Nat.le_of_ble_eq_true rfl, Nat.le_of_ble_eq_true rfl⟩ h19
theorem b_171_95 {d : Nat} {Q : (Option Value ⊕ Nat) → mi_H → Prop} (n sl : Nat) (f : Nat → mi_C) {l1 : Nat} {l2 : Int64} {l3 : Int64} {l4 : Int32} {o5 : Option Value} (h6 : mi_W d 171 108 [some (.ref l1), some (.long l2), none, some (.long l3), none, some (.int l4), o5] [] (n, sl, f) Q) : mi_W d 171 95 [some (.ref l1), some (.long l2), none, some (.long l3), none, some (.int l4), o5] [] (n, sl, f) Q := by
  exact w_goto cd_171_95 (by decide) h6
theorem b_171_98 {d : Nat} {Q : (Option Value ⊕ Nat) → mi_H → Prop} (n sl : Nat) (f : Nat → mi_C) {l1 : Nat} {l2 : Int64} {l3 : Int64} {l4 : Int32} {o5 : Option Value} {fs6 : List Value} {fs10 : List Value} (h7 : f l1 = .inr (12, fs6)) (h8 : l1 < n) (h9 : 47 < fs6.length) (h11 : (va_up f l1 (.inr (12, fs6.set 47 (.int 0)))) l1 = .inr (12, fs10)) (h12 : l1 < n) (h13 : 48 < fs10.length) (h14 : mi_W d 171 108 [some (.ref l1), some (.long l2), none, some (.long l3), none, some (.int l4), o5] [] (n, sl, (va_up (va_up f l1 (.inr (12, fs6.set 47 (.int 0)))) l1 (.inr (12, fs10.set 48 (.int 0))))) Q) : mi_W d 171 98 [some (.ref l1), some (.long l2), none, some (.long l3), none, some (.int l4), o5] [] (n, sl, f) Q := by
  refine w_aload_n cd_171_98 rfl ?_
  refine w_iconst (v := 0) cd_171_99 (by decide) ?_
  refine w_putfield (w := .int 0) cd_171_100 (show mt_f 12 490 = some (12, 47) by decide +kernel) h7 h8 ⟨h9, rfl, Or.inl (by decide)⟩ ?_
  refine w_aload_n cd_171_103 rfl ?_
  refine w_iconst (v := 0) cd_171_104 (by decide) ?_
  refine w_putfield (w := .int 0) cd_171_105 (show mt_f 12 493 = some (12, 48) by decide +kernel) h11 h12 ⟨h13, rfl, Or.inl (by decide)⟩ ?_
  exact h14
theorem b_171_108 {d : Nat} {Q : (Option Value ⊕ Nat) → mi_H → Prop} (n sl : Nat) (f : Nat → mi_C) {l1 : Nat} {l2 : Int64} {l3 : Int64} {l4 : Int32} {o5 : Option Value} {fs6 : List Value} {x9 : Int32} {fs11 : List Value} {fs15 : List Value} {x18 : Int32} {fs20 : List Value} (h7 : f l1 = .inr (12, fs6)) (h8 : l1 < n) (h10 : fs6[47]? = some (.int x9)) (h12 : f l1 = .inr (12, fs11)) (h13 : l1 < n) (h14 : 65 < fs11.length) (h16 : (va_up f l1 (.inr (12, fs11.set 65 (.int x9)))) l1 = .inr (12, fs15)) (h17 : l1 < n) (h19 : fs15[48]? = some (.int x18)) (h21 : (va_up f l1 (.inr (12, fs11.set 65 (.int x9)))) l1 = .inr (12, fs20)) (h22 : l1 < n) (h23 : 66 < fs20.length) (h24 : mi_W d 171 127 [some (.ref l1), some (.long l2), none, some (.long l3), none, some (.int l4), some (.int 0)] [] (n, sl, (va_up (va_up f l1 (.inr (12, fs11.set 65 (.int x9)))) l1 (.inr (12, fs20.set 66 (.int x18))))) Q) : mi_W d 171 108 [some (.ref l1), some (.long l2), none, some (.long l3), none, some (.int l4), o5] [] (n, sl, f) Q := by
  refine w_aload_n cd_171_108 rfl ?_
  refine w_aload_n cd_171_109 rfl ?_
  refine w_getfield cd_171_110 (show mt_f 12 490 = some (12, 47) by decide +kernel) h7 h8 h10 ?_
  refine w_putfield (w := .int x9) cd_171_113 (show mt_f 12 536 = some (12, 65) by decide +kernel) h12 h13 ⟨h14, rfl, Or.inl (by decide)⟩ ?_
  refine w_aload_n cd_171_116 rfl ?_
  refine w_aload_n cd_171_117 rfl ?_
  refine w_getfield cd_171_118 (show mt_f 12 493 = some (12, 48) by decide +kernel) h16 h17 h19 ?_
  refine w_putfield (w := .int x18) cd_171_121 (show mt_f 12 539 = some (12, 66) by decide +kernel) h21 h22 ⟨h23, rfl, Or.inl (by decide)⟩ ?_
  refine w_iconst (v := 0) cd_171_124 (by decide) ?_
  refine w_istore (ls' := [some (.ref l1), some (.long l2), none, some (.long l3), none, some (.int l4), some (.int 0)]) cd_171_125 (Nat.le_of_ble_eq_true rfl) rfl ?_
  exact h24
theorem b_171_127 {d : Nat} {Q : (Option Value ⊕ Nat) → mi_H → Prop} (n sl : Nat) (f : Nat → mi_C) {l1 : Nat} {l2 : Int64} {l3 : Int64} {l4 : Int32} {l5 : Int32} {fs6 : List Value} {x9 : Int32} (h7 : f l1 = .inr (12, fs6)) (h8 : l1 < n) (h10 : fs6[47]? = some (.int x9)) (h11 : x9 ≤ l5 → mi_W d 171 170 [some (.ref l1), some (.long l2), none, some (.long l3), none, some (.int l4), some (.int l5)] [] (n, sl, f) Q) (h12 : ¬ (x9 ≤ l5) → mi_W d 171 136 [some (.ref l1), some (.long l2), none, some (.long l3), none, some (.int l4), some (.int l5)] [] (n, sl, f) Q) : mi_W d 171 127 [some (.ref l1), some (.long l2), none, some (.long l3), none, some (.int l4), some (.int l5)] [] (n, sl, f) Q := by
  refine w_iload cd_171_127 rfl ?_
  refine w_aload_n cd_171_129 rfl ?_
  refine w_getfield cd_171_130 (show mt_f 12 490 = some (12, 47) by decide +kernel) h7 h8 h10 ?_
  exact w_if_icmpge cd_171_133 (by decide) h11 h12
theorem b_171_136 {d : Nat} {Q : (Option Value ⊕ Nat) → mi_H → Prop} (n sl : Nat) (f : Nat → mi_C) {l1 : Nat} {l2 : Int64} {l3 : Int64} {l4 : Int32} {l5 : Int32} {fs6 : List Value} {x9 : Nat} {fs11 : List Value} {x14 : Nat} (m16 i16 : Nat) (g16 : Nat → Int32) (m20 i20 : Nat) (g20 : Nat → Int32) {fs24 : List Value} {x27 : Nat} {fs29 : List Value} {x32 : Nat} (m34 i34 : Nat) (g34 : Nat → Int32) (m38 i38 : Nat) (g38 : Nat → Int32) (h7 : f l1 = .inr (12, fs6)) (h8 : l1 < n) (h10 : fs6[67]? = some (.ref x9)) (h12 : f l1 = .inr (12, fs11)) (h13 : l1 < n) (h15 : fs11[49]? = some (.ref x14)) (h17 : f x14 = .inl (0, m16, .inl g16)) (h18 : x14 < n ∨ x14 = mi_SC) (h19 : mi_ix l5 m16 i16) (h21 : f x9 = .inl (0, m20, .inl g20)) (h22 : x9 < n) (h23 : mi_ix l5 m20 i20) (h25 : (va_up f x9 (.inl (0, m20, .inl (upd g20 i20 (g16 i16))))) l1 = .inr (12, fs24)) (h26 : l1 < n) (h28 : fs24[68]? = some (.ref x27)) (h30 : (va_up f x9 (.inl (0, m20, .inl (upd g20 i20 (g16 i16))))) l1 = .inr (12, fs29)) (h31 : l1 < n) (h33 : fs29[50]? = some (.ref x32)) (h35 : (va_up f x9 (.inl (0, m20, .inl (upd g20 i20 (g16 i16))))) x32 = .inl (0, m34, .inl g34)) (h36 : x32 < n ∨ x32 = mi_SC) (h37 : mi_ix l5 m34 i34) (h39 : (va_up f x9 (.inl (0, m20, .inl (upd g20 i20 (g16 i16))))) x27 = .inl (0, m38, .inl g38)) (h40 : x27 < n) (h41 : mi_ix l5 m38 i38) (h42 : mi_W d 171 127 [some (.ref l1), some (.long l2), none, some (.long l3), none, some (.int l4), some (.int (l5 + 1))] [] (n, sl, (va_up (va_up f x9 (.inl (0, m20, .inl (upd g20 i20 (g16 i16))))) x27 (.inl (0, m38, .inl (upd g38 i38 (g34 i34)))))) Q) : mi_W d 171 136 [some (.ref l1), some (.long l2), none, some (.long l3), none, some (.int l4), some (.int l5)] [] (n, sl, f) Q := by
  refine w_aload_n cd_171_136 rfl ?_
  refine w_getfield cd_171_137 (show mt_f 12 193 = some (12, 67) by decide +kernel) h7 h8 h10 ?_
  refine w_iload cd_171_140 rfl ?_
  refine w_aload_n cd_171_142 rfl ?_
  refine w_getfield cd_171_143 (show mt_f 12 154 = some (12, 49) by decide +kernel) h12 h13 h15 ?_
  refine w_iload cd_171_146 rfl ?_
  refine w_iaload cd_171_148 h17 h18 h19 ?_
  refine w_iastore cd_171_149 h21 h22 h23 ?_
  refine w_aload_n cd_171_150 rfl ?_
  refine w_getfield cd_171_151 (show mt_f 12 196 = some (12, 68) by decide +kernel) h25 h26 h28 ?_
  refine w_iload cd_171_154 rfl ?_
  refine w_aload_n cd_171_156 rfl ?_
  refine w_getfield cd_171_157 (show mt_f 12 157 = some (12, 50) by decide +kernel) h30 h31 h33 ?_
  refine w_iload cd_171_160 rfl ?_
  refine w_iaload cd_171_162 h35 h36 h37 ?_
  refine w_iastore cd_171_163 h39 h40 h41 ?_
  refine w_iinc (v := 1) (ls' := [some (.ref l1), some (.long l2), none, some (.long l3), none, some (.int l4), some (.int (l5 + 1))]) cd_171_164 rfl (by decide) rfl ?_
  exact w_goto cd_171_167 (by decide) h42
theorem b_171_170 {d : Nat} {Q : (Option Value ⊕ Nat) → mi_H → Prop} (n sl : Nat) (f : Nat → mi_C) {l1 : Nat} {l2 : Int64} {l3 : Int64} {l4 : Int32} {l5 : Int32} (h6 : mi_W d 171 173 [some (.ref l1), some (.long l2), none, some (.long l3), none, some (.int l4), some (.int 0)] [] (n, sl, f) Q) : mi_W d 171 170 [some (.ref l1), some (.long l2), none, some (.long l3), none, some (.int l4), some (.int l5)] [] (n, sl, f) Q := by
  refine w_iconst (v := 0) cd_171_170 (by decide) ?_
  refine w_istore (ls' := [some (.ref l1), some (.long l2), none, some (.long l3), none, some (.int l4), some (.int 0)]) cd_171_171 (Nat.le_of_ble_eq_true rfl) rfl ?_
  exact h6
theorem b_171_173 {d : Nat} {Q : (Option Value ⊕ Nat) → mi_H → Prop} (n sl : Nat) (f : Nat → mi_C) {l1 : Nat} {l2 : Int64} {l3 : Int64} {l4 : Int32} {l5 : Int32} {fs6 : List Value} {x9 : Int32} (h7 : f l1 = .inr (12, fs6)) (h8 : l1 < n) (h10 : fs6[48]? = some (.int x9)) (h11 : x9 ≤ l5 → mi_W d 171 244 [some (.ref l1), some (.long l2), none, some (.long l3), none, some (.int l4), some (.int l5)] [] (n, sl, f) Q) (h12 : ¬ (x9 ≤ l5) → mi_W d 171 182 [some (.ref l1), some (.long l2), none, some (.long l3), none, some (.int l4), some (.int l5)] [] (n, sl, f) Q) : mi_W d 171 173 [some (.ref l1), some (.long l2), none, some (.long l3), none, some (.int l4), some (.int l5)] [] (n, sl, f) Q := by
  refine w_iload cd_171_173 rfl ?_
  refine w_aload_n cd_171_175 rfl ?_
  refine w_getfield cd_171_176 (show mt_f 12 493 = some (12, 48) by decide +kernel) h7 h8 h10 ?_
  exact w_if_icmpge cd_171_179 (by decide) h11 h12
theorem b_171_182 {d : Nat} {Q : (Option Value ⊕ Nat) → mi_H → Prop} (n sl : Nat) (f : Nat → mi_C) {l1 : Nat} {l2 : Int64} {l3 : Int64} {l4 : Int32} {l5 : Int32} {fs6 : List Value} {x9 : Nat} {fs11 : List Value} {x14 : Nat} (m16 i16 : Nat) (g16 : Nat → Int32) (m20 i20 : Nat) (g20 : Nat → Int32) {fs24 : List Value} {x27 : Nat} {fs29 : List Value} {x32 : Nat} (m34 i34 : Nat) (g34 : Nat → Int32) (m38 i38 : Nat) (g38 : Nat → Int32) {fs42 : List Value} {x45 : Nat} {fs47 : List Value} {x50 : Nat} (m52 i52 : Nat) (g52 : Nat → Int32) (m56 i56 : Nat) (g56 : Nat → Int32) {fs60 : List Value} {x63 : Nat} {fs65 : List Value} {x68 : Nat} (m70 i70 : Nat) (g70 : Nat → Int64) (m74 i74 : Nat) (g74 : Nat → Int64) (h7 : f l1 = .inr (12, fs6)) (h8 : l1 < n) (h10 : fs6[69]? = some (.ref x9)) (h12 : f l1 = .inr (12, fs11)) (h13 : l1 < n) (h15 : fs11[51]? = some (.ref x14)) (h17 : f x14 = .inl (0, m16, .inl g16)) (h18 : x14 < n ∨ x14 = mi_SC) (h19 : mi_ix l5 m16 i16) (h21 : f x9 = .inl (0, m20, .inl g20)) (h22 : x9 < n) (h23 : mi_ix l5 m20 i20) (h25 : (va_up f x9 (.inl (0, m20, .inl (upd g20 i20 (g16 i16))))) l1 = .inr (12, fs24)) (h26 : l1 < n) (h28 : fs24[70]? = some (.ref x27)) (h30 : (va_up f x9 (.inl (0, m20, .inl (upd g20 i20 (g16 i16))))) l1 = .inr (12, fs29)) (h31 : l1 < n) (h33 : fs29[52]? = some (.ref x32)) (h35 : (va_up f x9 (.inl (0, m20, .inl (upd g20 i20 (g16 i16))))) x32 = .inl (0, m34, .inl g34)) (h36 : x32 < n ∨ x32 = mi_SC) (h37 : mi_ix l5 m34 i34) (h39 : (va_up f x9 (.inl (0, m20, .inl (upd g20 i20 (g16 i16))))) x27 = .inl (0, m38, .inl g38)) (h40 : x27 < n) (h41 : mi_ix l5 m38 i38) (h43 : (va_up (va_up f x9 (.inl (0, m20, .inl (upd g20 i20 (g16 i16))))) x27 (.inl (0, m38, .inl (upd g38 i38 (g34 i34))))) l1 = .inr (12, fs42)) (h44 : l1 < n) (h46 : fs42[71]? = some (.ref x45)) (h48 : (va_up (va_up f x9 (.inl (0, m20, .inl (upd g20 i20 (g16 i16))))) x27 (.inl (0, m38, .inl (upd g38 i38 (g34 i34))))) l1 = .inr (12, fs47)) (h49 : l1 < n) (h51 : fs47[53]? = some (.ref x50)) (h53 : (va_up (va_up f x9 (.inl (0, m20, .inl (upd g20 i20 (g16 i16))))) x27 (.inl (0, m38, .inl (upd g38 i38 (g34 i34))))) x50 = .inl (0, m52, .inl g52)) (h54 : x50 < n ∨ x50 = mi_SC) (h55 : mi_ix l5 m52 i52) (h57 : (va_up (va_up f x9 (.inl (0, m20, .inl (upd g20 i20 (g16 i16))))) x27 (.inl (0, m38, .inl (upd g38 i38 (g34 i34))))) x45 = .inl (0, m56, .inl g56)) (h58 : x45 < n) (h59 : mi_ix l5 m56 i56) (h61 : (va_up (va_up (va_up f x9 (.inl (0, m20, .inl (upd g20 i20 (g16 i16))))) x27 (.inl (0, m38, .inl (upd g38 i38 (g34 i34))))) x45 (.inl (0, m56, .inl (upd g56 i56 (g52 i52))))) l1 = .inr (12, fs60)) (h62 : l1 < n) (h64 : fs60[72]? = some (.ref x63)) (h66 : (va_up (va_up (va_up f x9 (.inl (0, m20, .inl (upd g20 i20 (g16 i16))))) x27 (.inl (0, m38, .inl (upd g38 i38 (g34 i34))))) x45 (.inl (0, m56, .inl (upd g56 i56 (g52 i52))))) l1 = .inr (12, fs65)) (h67 : l1 < n) (h69 : fs65[54]? = some (.ref x68)) (h71 : (va_up (va_up (va_up f x9 (.inl (0, m20, .inl (upd g20 i20 (g16 i16))))) x27 (.inl (0, m38, .inl (upd g38 i38 (g34 i34))))) x45 (.inl (0, m56, .inl (upd g56 i56 (g52 i52))))) x68 = .inl (3, m70, .inr (.inl g70))) (h72 : x68 < n) (h73 : mi_ix l5 m70 i70) (h75 : (va_up (va_up (va_up f x9 (.inl (0, m20, .inl (upd g20 i20 (g16 i16))))) x27 (.inl (0, m38, .inl (upd g38 i38 (g34 i34))))) x45 (.inl (0, m56, .inl (upd g56 i56 (g52 i52))))) x63 = .inl (3, m74, .inr (.inl g74))) (h76 : x63 < n) (h77 : mi_ix l5 m74 i74) (h78 : mi_W d 171 173 [some (.ref l1), some (.long l2), none, some (.long l3), none, some (.int l4), some (.int (l5 + 1))] [] (n, sl, (va_up (va_up (va_up (va_up f x9 (.inl (0, m20, .inl (upd g20 i20 (g16 i16))))) x27 (.inl (0, m38, .inl (upd g38 i38 (g34 i34))))) x45 (.inl (0, m56, .inl (upd g56 i56 (g52 i52))))) x63 (.inl (3, m74, .inr (.inl (vp_updL g74 i74 (g70 i70))))))) Q) : mi_W d 171 182 [some (.ref l1), some (.long l2), none, some (.long l3), none, some (.int l4), some (.int l5)] [] (n, sl, f) Q := by
  refine w_aload_n cd_171_182 rfl ?_
  refine w_getfield cd_171_183 (show mt_f 12 199 = some (12, 69) by decide +kernel) h7 h8 h10 ?_
  refine w_iload cd_171_186 rfl ?_
  refine w_aload_n cd_171_188 rfl ?_
  refine w_getfield cd_171_189 (show mt_f 12 160 = some (12, 51) by decide +kernel) h12 h13 h15 ?_
  refine w_iload cd_171_192 rfl ?_
  refine w_iaload cd_171_194 h17 h18 h19 ?_
  refine w_iastore cd_171_195 h21 h22 h23 ?_
  refine w_aload_n cd_171_196 rfl ?_
  refine w_getfield cd_171_197 (show mt_f 12 202 = some (12, 70) by decide +kernel) h25 h26 h28 ?_
  refine w_iload cd_171_200 rfl ?_
  refine w_aload_n cd_171_202 rfl ?_
  refine w_getfield cd_171_203 (show mt_f 12 163 = some (12, 52) by decide +kernel) h30 h31 h33 ?_
  refine w_iload cd_171_206 rfl ?_
  refine w_iaload cd_171_208 h35 h36 h37 ?_
  refine w_iastore cd_171_209 h39 h40 h41 ?_
  refine w_aload_n cd_171_210 rfl ?_
  refine w_getfield cd_171_211 (show mt_f 12 205 = some (12, 71) by decide +kernel) h43 h44 h46 ?_
  refine w_iload cd_171_214 rfl ?_
  refine w_aload_n cd_171_216 rfl ?_
  refine w_getfield cd_171_217 (show mt_f 12 166 = some (12, 53) by decide +kernel) h48 h49 h51 ?_
  refine w_iload cd_171_220 rfl ?_
  refine w_iaload cd_171_222 h53 h54 h55 ?_
  refine w_iastore cd_171_223 h57 h58 h59 ?_
  refine w_aload_n cd_171_224 rfl ?_
  refine w_getfield cd_171_225 (show mt_f 12 208 = some (12, 72) by decide +kernel) h61 h62 h64 ?_
  refine w_iload cd_171_228 rfl ?_
  refine w_aload_n cd_171_230 rfl ?_
  refine w_getfield cd_171_231 (show mt_f 12 169 = some (12, 54) by decide +kernel) h66 h67 h69 ?_
  refine w_iload cd_171_234 rfl ?_
  refine w_laload cd_171_236 h71 h72 h73 ?_
  refine w_lastore cd_171_237 h75 h76 h77 ?_
  refine w_iinc (v := 1) (ls' := [some (.ref l1), some (.long l2), none, some (.long l3), none, some (.int l4), some (.int (l5 + 1))]) cd_171_238 rfl (by decide) rfl ?_
  exact w_goto cd_171_241 (by decide) h78
theorem b_171_244 {d : Nat} {Q : (Option Value ⊕ Nat) → mi_H → Prop} (n sl : Nat) (f : Nat → mi_C) {l1 : Nat} {l2 : Int64} {l3 : Int64} {l4 : Int32} {l5 : Int32} (h6 : Q (.inl (some (.int l4))) (n, sl, f)) : mi_W d 171 244 [some (.ref l1), some (.long l2), none, some (.long l3), none, some (.int l4), some (.int l5)] [] (n, sl, f) Q := by
  refine w_iload cd_171_244 rfl ?_
  exact w_ireturn_i cd_171_246 (by decide +kernel) h6
/-! MarloweHostModel$State.copy(LMarloweHostModel$State;)V -/
theorem cd_172_0 : mt_cd 172 0 = some (.aload_n 0) := by decide +kernel
theorem cd_172_1 : mt_cd 172 1 = some (.aload_n 1) := by decide +kernel
theorem cd_172_2 : mt_cd 172 2 = some (.getfield 28) := by decide +kernel
theorem cd_172_5 : mt_cd 172 5 = some (.putfield 28) := by decide +kernel
theorem cd_172_8 : mt_cd 172 8 = some (.aload_n 0) := by decide +kernel
theorem cd_172_9 : mt_cd 172 9 = some (.aload_n 1) := by decide +kernel
theorem cd_172_10 : mt_cd 172 10 = some (.getfield 32) := by decide +kernel
theorem cd_172_13 : mt_cd 172 13 = some (.putfield 32) := by decide +kernel
theorem cd_172_16 : mt_cd 172 16 = some (.iconst 0) := by decide +kernel
theorem cd_172_17 : mt_cd 172 17 = some (.istore_n 2) := by decide +kernel
theorem cd_172_18 : mt_cd 172 18 = some (.iload_n 2) := by decide +kernel
theorem cd_172_19 : mt_cd 172 19 = some (.bipush 32) := by decide +kernel
theorem cd_172_21 : mt_cd 172 21 = some (.if_icmp .ge 21) := by decide +kernel
theorem cd_172_24 : mt_cd 172 24 = some (.aload_n 0) := by decide +kernel
theorem cd_172_25 : mt_cd 172 25 = some (.getfield 9) := by decide +kernel
theorem cd_172_28 : mt_cd 172 28 = some (.iload_n 2) := by decide +kernel
theorem cd_172_29 : mt_cd 172 29 = some (.aload_n 1) := by decide +kernel
theorem cd_172_30 : mt_cd 172 30 = some (.getfield 9) := by decide +kernel
theorem cd_172_33 : mt_cd 172 33 = some (.iload_n 2) := by decide +kernel
theorem cd_172_34 : mt_cd 172 34 = some (.laload) := by decide +kernel
theorem cd_172_35 : mt_cd 172 35 = some (.lastore) := by decide +kernel
theorem cd_172_36 : mt_cd 172 36 = some (.iinc 2 1) := by decide +kernel
theorem cd_172_39 : mt_cd 172 39 = some (.goto (-21)) := by decide +kernel
theorem cd_172_42 : mt_cd 172 42 = some (.iconst 0) := by decide +kernel
theorem cd_172_43 : mt_cd 172 43 = some (.istore_n 2) := by decide +kernel
theorem cd_172_44 : mt_cd 172 44 = some (.iload_n 2) := by decide +kernel
theorem cd_172_45 : mt_cd 172 45 = some (.bipush 8) := by decide +kernel
theorem cd_172_47 : mt_cd 172 47 = some (.if_icmp .ge 57) := by decide +kernel
theorem cd_172_50 : mt_cd 172 50 = some (.aload_n 0) := by decide +kernel
theorem cd_172_51 : mt_cd 172 51 = some (.getfield 15) := by decide +kernel
theorem cd_172_54 : mt_cd 172 54 = some (.iload_n 2) := by decide +kernel
theorem cd_172_55 : mt_cd 172 55 = some (.aload_n 1) := by decide +kernel
theorem cd_172_56 : mt_cd 172 56 = some (.getfield 15) := by decide +kernel
theorem cd_172_59 : mt_cd 172 59 = some (.iload_n 2) := by decide +kernel
theorem cd_172_60 : mt_cd 172 60 = some (.laload) := by decide +kernel
theorem cd_172_61 : mt_cd 172 61 = some (.lastore) := by decide +kernel
theorem cd_172_62 : mt_cd 172 62 = some (.aload_n 0) := by decide +kernel
theorem cd_172_63 : mt_cd 172 63 = some (.getfield 18) := by decide +kernel
theorem cd_172_66 : mt_cd 172 66 = some (.iload_n 2) := by decide +kernel
theorem cd_172_67 : mt_cd 172 67 = some (.aload_n 1) := by decide +kernel
theorem cd_172_68 : mt_cd 172 68 = some (.getfield 18) := by decide +kernel
theorem cd_172_71 : mt_cd 172 71 = some (.iload_n 2) := by decide +kernel
theorem cd_172_72 : mt_cd 172 72 = some (.laload) := by decide +kernel
theorem cd_172_73 : mt_cd 172 73 = some (.lastore) := by decide +kernel
theorem cd_172_74 : mt_cd 172 74 = some (.aload_n 0) := by decide +kernel
theorem cd_172_75 : mt_cd 172 75 = some (.getfield 21) := by decide +kernel
theorem cd_172_78 : mt_cd 172 78 = some (.iload_n 2) := by decide +kernel
theorem cd_172_79 : mt_cd 172 79 = some (.aload_n 1) := by decide +kernel
theorem cd_172_80 : mt_cd 172 80 = some (.getfield 21) := by decide +kernel
theorem cd_172_83 : mt_cd 172 83 = some (.iload_n 2) := by decide +kernel
theorem cd_172_84 : mt_cd 172 84 = some (.baload) := by decide +kernel
theorem cd_172_85 : mt_cd 172 85 = some (.bastore) := by decide +kernel
theorem cd_172_86 : mt_cd 172 86 = some (.aload_n 0) := by decide +kernel
theorem cd_172_87 : mt_cd 172 87 = some (.getfield 25) := by decide +kernel
theorem cd_172_90 : mt_cd 172 90 = some (.iload_n 2) := by decide +kernel
theorem cd_172_91 : mt_cd 172 91 = some (.aload_n 1) := by decide +kernel
theorem cd_172_92 : mt_cd 172 92 = some (.getfield 25) := by decide +kernel
theorem cd_172_95 : mt_cd 172 95 = some (.iload_n 2) := by decide +kernel
theorem cd_172_96 : mt_cd 172 96 = some (.baload) := by decide +kernel
theorem cd_172_97 : mt_cd 172 97 = some (.bastore) := by decide +kernel
theorem cd_172_98 : mt_cd 172 98 = some (.iinc 2 1) := by decide +kernel
theorem cd_172_101 : mt_cd 172 101 = some (.goto (-57)) := by decide +kernel
theorem cd_172_104 : mt_cd 172 104 = some (.return_) := by decide +kernel
theorem b_172_0 {d : Nat} {Q : (Option Value ⊕ Nat) → mi_H → Prop} (n sl : Nat) (f : Nat → mi_C) {l1 : Nat} {l2 : Nat} {o3 : Option Value} {fs4 : List Value} {x7 : Int32} {fs9 : List Value} {fs13 : List Value} {x16 : Int64} {fs18 : List Value} (h5 : f l2 = .inr (13, fs4)) (h6 : l2 < n) (h8 : fs4[0]? = some (.int x7)) (h10 : f l1 = .inr (13, fs9)) (h11 : l1 < n) (h12 : 0 < fs9.length) (h14 : (va_up f l1 (.inr (13, fs9.set 0 (.int x7)))) l2 = .inr (13, fs13)) (h15 : l2 < n) (h17 : fs13[1]? = some (.long x16)) (h19 : (va_up f l1 (.inr (13, fs9.set 0 (.int x7)))) l1 = .inr (13, fs18)) (h20 : l1 < n) (h21 : 1 < fs18.length) (h22 : mi_W d 172 18 [some (.ref l1), some (.ref l2), some (.int 0)] [] (n, sl, (va_up (va_up f l1 (.inr (13, fs9.set 0 (.int x7)))) l1 (.inr (13, fs18.set 1 (.long x16))))) Q) : mi_W d 172 0 [some (.ref l1), some (.ref l2), o3] [] (n, sl, f) Q := by
  refine w_aload_n cd_172_0 rfl ?_
  refine w_aload_n cd_172_1 rfl ?_
  refine w_getfield cd_172_2 (show mt_f 13 28 = some (13, 0) by decide +kernel) h5 h6 h8 ?_
  refine w_putfield (w := .int x7) cd_172_5 (show mt_f 13 28 = some (13, 0) by decide +kernel) h10 h11 ⟨h12, rfl, Or.inl (by decide)⟩ ?_
  refine w_aload_n cd_172_8 rfl ?_
  refine w_aload_n cd_172_9 rfl ?_
  refine w_getfield cd_172_10 (show mt_f 13 32 = some (13, 1) by decide +kernel) h14 h15 h17 ?_
  refine w_putfield (w := .long x16) cd_172_13 (show mt_f 13 32 = some (13, 1) by decide +kernel) h19 h20 ⟨h21, rfl, Or.inl (by decide)⟩ ?_
  refine w_iconst (v := 0) cd_172_16 (by decide) ?_
  refine w_istore_n (ls' := [some (.ref l1), some (.ref l2), some (.int 0)]) cd_172_17 (Nat.le_of_ble_eq_true rfl) rfl ?_
  exact h22
theorem b_172_18 {d : Nat} {Q : (Option Value ⊕ Nat) → mi_H → Prop} (n sl : Nat) (f : Nat → mi_C) {l1 : Nat} {l2 : Nat} {l3 : Int32} (h4 : 32 ≤ l3 → mi_W d 172 42 [some (.ref l1), some (.ref l2), some (.int l3)] [] (n, sl, f) Q) (h5 : ¬ (32 ≤ l3) → mi_W d 172 24 [some (.ref l1), some (.ref l2), some (.int l3)] [] (n, sl, f) Q) : mi_W d 172 18 [some (.ref l1), some (.ref l2), some (.int l3)] [] (n, sl, f) Q := by
  refine w_iload_n cd_172_18 rfl ?_
  refine w_bipush (v := 32) cd_172_19 (by decide) ?_
  exact w_if_icmpge cd_172_21 (by decide) h4 h5
theorem b_172_24 {d : Nat} {Q : (Option Value ⊕ Nat) → mi_H → Prop} (n sl : Nat) (f : Nat → mi_C) {l1 : Nat} {l2 : Nat} {l3 : Int32} {fs4 : List Value} {x7 : Nat} {fs9 : List Value} {x12 : Nat} (m14 i14 : Nat) (g14 : Nat → Int64) (m18 i18 : Nat) (g18 : Nat → Int64) (h5 : f l1 = .inr (13, fs4)) (h6 : l1 < n) (h8 : fs4[2]? = some (.ref x7)) (h10 : f l2 = .inr (13, fs9)) (h11 : l2 < n) (h13 : fs9[2]? = some (.ref x12)) (h15 : f x12 = .inl (3, m14, .inr (.inl g14))) (h16 : x12 < n) (h17 : mi_ix l3 m14 i14) (h19 : f x7 = .inl (3, m18, .inr (.inl g18))) (h20 : x7 < n) (h21 : mi_ix l3 m18 i18) (h22 : mi_W d 172 18 [some (.ref l1), some (.ref l2), some (.int (l3 + 1))] [] (n, sl, (va_up f x7 (.inl (3, m18, .inr (.inl (vp_updL g18 i18 (g14 i14))))))) Q) : mi_W d 172 24 [some (.ref l1), some (.ref l2), some (.int l3)] [] (n, sl, f) Q := by
  refine w_aload_n cd_172_24 rfl ?_
  refine w_getfield cd_172_25 (show mt_f 13 9 = some (13, 2) by decide +kernel) h5 h6 h8 ?_
  refine w_iload_n cd_172_28 rfl ?_
  refine w_aload_n cd_172_29 rfl ?_
  refine w_getfield cd_172_30 (show mt_f 13 9 = some (13, 2) by decide +kernel) h10 h11 h13 ?_
  refine w_iload_n cd_172_33 rfl ?_
  refine w_laload cd_172_34 h15 h16 h17 ?_
  refine w_lastore cd_172_35 h19 h20 h21 ?_
  refine w_iinc (v := 1) (ls' := [some (.ref l1), some (.ref l2), some (.int (l3 + 1))]) cd_172_36 rfl (by decide) rfl ?_
  exact w_goto cd_172_39 (by decide) h22
theorem b_172_42 {d : Nat} {Q : (Option Value ⊕ Nat) → mi_H → Prop} (n sl : Nat) (f : Nat → mi_C) {l1 : Nat} {l2 : Nat} {l3 : Int32} (h4 : mi_W d 172 44 [some (.ref l1), some (.ref l2), some (.int 0)] [] (n, sl, f) Q) : mi_W d 172 42 [some (.ref l1), some (.ref l2), some (.int l3)] [] (n, sl, f) Q := by
  refine w_iconst (v := 0) cd_172_42 (by decide) ?_
  refine w_istore_n (ls' := [some (.ref l1), some (.ref l2), some (.int 0)]) cd_172_43 (Nat.le_of_ble_eq_true rfl) rfl ?_
  exact h4
theorem b_172_44 {d : Nat} {Q : (Option Value ⊕ Nat) → mi_H → Prop} (n sl : Nat) (f : Nat → mi_C) {l1 : Nat} {l2 : Nat} {l3 : Int32} (h4 : 8 ≤ l3 → mi_W d 172 104 [some (.ref l1), some (.ref l2), some (.int l3)] [] (n, sl, f) Q) (h5 : ¬ (8 ≤ l3) → mi_W d 172 50 [some (.ref l1), some (.ref l2), some (.int l3)] [] (n, sl, f) Q) : mi_W d 172 44 [some (.ref l1), some (.ref l2), some (.int l3)] [] (n, sl, f) Q := by
  refine w_iload_n cd_172_44 rfl ?_
  refine w_bipush (v := 8) cd_172_45 (by decide) ?_
  exact w_if_icmpge cd_172_47 (by decide) h4 h5
theorem b_172_50 {d : Nat} {Q : (Option Value ⊕ Nat) → mi_H → Prop} (n sl : Nat) (f : Nat → mi_C) {l1 : Nat} {l2 : Nat} {l3 : Int32} {fs4 : List Value} {x7 : Nat} {fs9 : List Value} {x12 : Nat} (m14 i14 : Nat) (g14 : Nat → Int64) (m18 i18 : Nat) (g18 : Nat → Int64) {fs22 : List Value} {x25 : Nat} {fs27 : List Value} {x30 : Nat} (m32 i32 : Nat) (g32 : Nat → Int64) (m36 i36 : Nat) (g36 : Nat → Int64) {fs40 : List Value} {x43 : Nat} {fs45 : List Value} {x48 : Nat} (m50 i50 : Nat) (g50 : Nat → Int32) (m54 i54 : Nat) (g54 : Nat → Int32) {fs58 : List Value} {x61 : Nat} {fs63 : List Value} {x66 : Nat} (m68 i68 : Nat) (g68 : Nat → Int32) (m72 i72 : Nat) (g72 : Nat → Int32) (h5 : f l1 = .inr (13, fs4)) (h6 : l1 < n) (h8 : fs4[3]? = some (.ref x7)) (h10 : f l2 = .inr (13, fs9)) (h11 : l2 < n) (h13 : fs9[3]? = some (.ref x12)) (h15 : f x12 = .inl (3, m14, .inr (.inl g14))) (h16 : x12 < n) (h17 : mi_ix l3 m14 i14) (h19 : f x7 = .inl (3, m18, .inr (.inl g18))) (h20 : x7 < n) (h21 : mi_ix l3 m18 i18) (h23 : (va_up f x7 (.inl (3, m18, .inr (.inl (vp_updL g18 i18 (g14 i14)))))) l1 = .inr (13, fs22)) (h24 : l1 < n) (h26 : fs22[4]? = some (.ref x25)) (h28 : (va_up f x7 (.inl (3, m18, .inr (.inl (vp_updL g18 i18 (g14 i14)))))) l2 = .inr (13, fs27)) (h29 : l2 < n) (h31 : fs27[4]? = some (.ref x30)) (h33 : (va_up f x7 (.inl (3, m18, .inr (.inl (vp_updL g18 i18 (g14 i14)))))) x30 = .inl (3, m32, .inr (.inl g32))) (h34 : x30 < n) (h35 : mi_ix l3 m32 i32) (h37 : (va_up f x7 (.inl (3, m18, .inr (.inl (vp_updL g18 i18 (g14 i14)))))) x25 = .inl (3, m36, .inr (.inl g36))) (h38 : x25 < n) (h39 : mi_ix l3 m36 i36) (h41 : (va_up (va_up f x7 (.inl (3, m18, .inr (.inl (vp_updL g18 i18 (g14 i14)))))) x25 (.inl (3, m36, .inr (.inl (vp_updL g36 i36 (g32 i32)))))) l1 = .inr (13, fs40)) (h42 : l1 < n) (h44 : fs40[5]? = some (.ref x43)) (h46 : (va_up (va_up f x7 (.inl (3, m18, .inr (.inl (vp_updL g18 i18 (g14 i14)))))) x25 (.inl (3, m36, .inr (.inl (vp_updL g36 i36 (g32 i32)))))) l2 = .inr (13, fs45)) (h47 : l2 < n) (h49 : fs45[5]? = some (.ref x48)) (h51 : (va_up (va_up f x7 (.inl (3, m18, .inr (.inl (vp_updL g18 i18 (g14 i14)))))) x25 (.inl (3, m36, .inr (.inl (vp_updL g36 i36 (g32 i32)))))) x48 = .inl (2, m50, .inl g50)) (h52 : x48 < n) (h53 : mi_ix l3 m50 i50) (h55 : (va_up (va_up f x7 (.inl (3, m18, .inr (.inl (vp_updL g18 i18 (g14 i14)))))) x25 (.inl (3, m36, .inr (.inl (vp_updL g36 i36 (g32 i32)))))) x43 = .inl (2, m54, .inl g54)) (h56 : x43 < n) (h57 : mi_ix l3 m54 i54) (h59 : (va_up (va_up (va_up f x7 (.inl (3, m18, .inr (.inl (vp_updL g18 i18 (g14 i14)))))) x25 (.inl (3, m36, .inr (.inl (vp_updL g36 i36 (g32 i32)))))) x43 (.inl (2, m54, .inl (upd g54 i54 (vp_nar .boolean (g50 i50)))))) l1 = .inr (13, fs58)) (h60 : l1 < n) (h62 : fs58[6]? = some (.ref x61)) (h64 : (va_up (va_up (va_up f x7 (.inl (3, m18, .inr (.inl (vp_updL g18 i18 (g14 i14)))))) x25 (.inl (3, m36, .inr (.inl (vp_updL g36 i36 (g32 i32)))))) x43 (.inl (2, m54, .inl (upd g54 i54 (vp_nar .boolean (g50 i50)))))) l2 = .inr (13, fs63)) (h65 : l2 < n) (h67 : fs63[6]? = some (.ref x66)) (h69 : (va_up (va_up (va_up f x7 (.inl (3, m18, .inr (.inl (vp_updL g18 i18 (g14 i14)))))) x25 (.inl (3, m36, .inr (.inl (vp_updL g36 i36 (g32 i32)))))) x43 (.inl (2, m54, .inl (upd g54 i54 (vp_nar .boolean (g50 i50)))))) x66 = .inl (2, m68, .inl g68)) (h70 : x66 < n) (h71 : mi_ix l3 m68 i68) (h73 : (va_up (va_up (va_up f x7 (.inl (3, m18, .inr (.inl (vp_updL g18 i18 (g14 i14)))))) x25 (.inl (3, m36, .inr (.inl (vp_updL g36 i36 (g32 i32)))))) x43 (.inl (2, m54, .inl (upd g54 i54 (vp_nar .boolean (g50 i50)))))) x61 = .inl (2, m72, .inl g72)) (h74 : x61 < n) (h75 : mi_ix l3 m72 i72) (h76 : mi_W d 172 44 [some (.ref l1), some (.ref l2), some (.int (l3 + 1))] [] (n, sl, (va_up (va_up (va_up (va_up f x7 (.inl (3, m18, .inr (.inl (vp_updL g18 i18 (g14 i14)))))) x25 (.inl (3, m36, .inr (.inl (vp_updL g36 i36 (g32 i32)))))) x43 (.inl (2, m54, .inl (upd g54 i54 (vp_nar .boolean (g50 i50)))))) x61 (.inl (2, m72, .inl (upd g72 i72 (vp_nar .boolean (g68 i68))))))) Q) : mi_W d 172 50 [some (.ref l1), some (.ref l2), some (.int l3)] [] (n, sl, f) Q := by
  refine w_aload_n cd_172_50 rfl ?_
  refine w_getfield cd_172_51 (show mt_f 13 15 = some (13, 3) by decide +kernel) h5 h6 h8 ?_
  refine w_iload_n cd_172_54 rfl ?_
  refine w_aload_n cd_172_55 rfl ?_
  refine w_getfield cd_172_56 (show mt_f 13 15 = some (13, 3) by decide +kernel) h10 h11 h13 ?_
  refine w_iload_n cd_172_59 rfl ?_
  refine w_laload cd_172_60 h15 h16 h17 ?_
  refine w_lastore cd_172_61 h19 h20 h21 ?_
  refine w_aload_n cd_172_62 rfl ?_
  refine w_getfield cd_172_63 (show mt_f 13 18 = some (13, 4) by decide +kernel) h23 h24 h26 ?_
  refine w_iload_n cd_172_66 rfl ?_
  refine w_aload_n cd_172_67 rfl ?_
  refine w_getfield cd_172_68 (show mt_f 13 18 = some (13, 4) by decide +kernel) h28 h29 h31 ?_
  refine w_iload_n cd_172_71 rfl ?_
  refine w_laload cd_172_72 h33 h34 h35 ?_
  refine w_lastore cd_172_73 h37 h38 h39 ?_
  refine w_aload_n cd_172_74 rfl ?_
  refine w_getfield cd_172_75 (show mt_f 13 21 = some (13, 5) by decide +kernel) h41 h42 h44 ?_
  refine w_iload_n cd_172_78 rfl ?_
  refine w_aload_n cd_172_79 rfl ?_
  refine w_getfield cd_172_80 (show mt_f 13 21 = some (13, 5) by decide +kernel) h46 h47 h49 ?_
  refine w_iload_n cd_172_83 rfl ?_
  refine w_baload2 cd_172_84 h51 h52 h53 ?_
  refine w_bastore2 cd_172_85 h55 h56 h57 ?_
  refine w_aload_n cd_172_86 rfl ?_
  refine w_getfield cd_172_87 (show mt_f 13 25 = some (13, 6) by decide +kernel) h59 h60 h62 ?_
  refine w_iload_n cd_172_90 rfl ?_
  refine w_aload_n cd_172_91 rfl ?_
  refine w_getfield cd_172_92 (show mt_f 13 25 = some (13, 6) by decide +kernel) h64 h65 h67 ?_
  refine w_iload_n cd_172_95 rfl ?_
  refine w_baload2 cd_172_96 h69 h70 h71 ?_
  refine w_bastore2 cd_172_97 h73 h74 h75 ?_
  refine w_iinc (v := 1) (ls' := [some (.ref l1), some (.ref l2), some (.int (l3 + 1))]) cd_172_98 rfl (by decide) rfl ?_
  exact w_goto cd_172_101 (by decide) h76
theorem b_172_104 {d : Nat} {Q : (Option Value ⊕ Nat) → mi_H → Prop} (n sl : Nat) (f : Nat → mi_C) {l1 : Nat} {l2 : Nat} {l3 : Int32} (h4 : Q (.inl none) (n, sl, f)) : mi_W d 172 104 [some (.ref l1), some (.ref l2), some (.int l3)] [] (n, sl, f) Q := by
  exact w_return cd_172_104 (by decide +kernel) h4
/-! MarloweHostModel.transact(JJI)I -/
theorem cd_173_0 : mt_cd 173 0 = some (.aload_n 0) := by decide +kernel
theorem cd_173_1 : mt_cd 173 1 = some (.iconst 0) := by decide +kernel
theorem cd_173_2 : mt_cd 173 2 = some (.putfield 490) := by decide +kernel
theorem cd_173_5 : mt_cd 173 5 = some (.aload_n 0) := by decide +kernel
theorem cd_173_6 : mt_cd 173 6 = some (.iconst 0) := by decide +kernel
theorem cd_173_7 : mt_cd 173 7 = some (.putfield 493) := by decide +kernel
theorem cd_173_10 : mt_cd 173 10 = some (.aload_n 0) := by decide +kernel
theorem cd_173_11 : mt_cd 173 11 = some (.iconst 0) := by decide +kernel
theorem cd_173_12 : mt_cd 173 12 = some (.putfield 506) := by decide +kernel
theorem cd_173_15 : mt_cd 173 15 = some (.iconst 0) := by decide +kernel
theorem cd_173_16 : mt_cd 173 16 = some (.istore 6) := by decide +kernel
theorem cd_173_18 : mt_cd 173 18 = some (.iload 6) := by decide +kernel
theorem cd_173_20 : mt_cd 173 20 = some (.bipush 32) := by decide +kernel
theorem cd_173_22 : mt_cd 173 22 = some (.if_icmp .ge 17) := by decide +kernel
theorem cd_173_25 : mt_cd 173 25 = some (.aload_n 0) := by decide +kernel
theorem cd_173_26 : mt_cd 173 26 = some (.getfield 172) := by decide +kernel
theorem cd_173_29 : mt_cd 173 29 = some (.iload 6) := by decide +kernel
theorem cd_173_31 : mt_cd 173 31 = some (.lconst 0) := by decide +kernel
theorem cd_173_32 : mt_cd 173 32 = some (.lastore) := by decide +kernel
theorem cd_173_33 : mt_cd 173 33 = some (.iinc 6 1) := by decide +kernel
theorem cd_173_36 : mt_cd 173 36 = some (.goto (-18)) := by decide +kernel
theorem cd_173_39 : mt_cd 173 39 = some (.lload_n 3) := by decide +kernel
theorem cd_173_40 : mt_cd 173 40 = some (.lload_n 1) := by decide +kernel
theorem cd_173_41 : mt_cd 173 41 = some (.lcmp) := by decide +kernel
theorem cd_173_42 : mt_cd 173 42 = some (.ifCond .ge 5) := by decide +kernel
theorem cd_173_45 : mt_cd 173 45 = some (.iconst 1) := by decide +kernel
theorem cd_173_46 : mt_cd 173 46 = some (.ireturn) := by decide +kernel
theorem cd_173_47 : mt_cd 173 47 = some (.lload_n 3) := by decide +kernel
theorem cd_173_48 : mt_cd 173 48 = some (.aload_n 0) := by decide +kernel
theorem cd_173_49 : mt_cd 173 49 = some (.getfield 445) := by decide +kernel
theorem cd_173_52 : mt_cd 173 52 = some (.getfield 516) := by decide +kernel
theorem cd_173_55 : mt_cd 173 55 = some (.lcmp) := by decide +kernel
theorem cd_173_56 : mt_cd 173 56 = some (.ifCond .ge 5) := by decide +kernel
theorem cd_173_59 : mt_cd 173 59 = some (.iconst 2) := by decide +kernel
theorem cd_173_60 : mt_cd 173 60 = some (.ireturn) := by decide +kernel
theorem cd_173_61 : mt_cd 173 61 = some (.aload_n 0) := by decide +kernel
theorem cd_173_62 : mt_cd 173 62 = some (.lload_n 1) := by decide +kernel
theorem cd_173_63 : mt_cd 173 63 = some (.aload_n 0) := by decide +kernel
theorem cd_173_64 : mt_cd 173 64 = some (.getfield 445) := by decide +kernel
theorem cd_173_67 : mt_cd 173 67 = some (.getfield 516) := by decide +kernel
theorem cd_173_70 : mt_cd 173 70 = some (.lcmp) := by decide +kernel
theorem cd_173_71 : mt_cd 173 71 = some (.ifCond .ge 13) := by decide +kernel
theorem cd_173_74 : mt_cd 173 74 = some (.aload_n 0) := by decide +kernel
theorem cd_173_75 : mt_cd 173 75 = some (.getfield 445) := by decide +kernel
theorem cd_173_78 : mt_cd 173 78 = some (.getfield 516) := by decide +kernel
theorem cd_173_81 : mt_cd 173 81 = some (.goto 4) := by decide +kernel
theorem cd_173_84 : mt_cd 173 84 = some (.lload_n 1) := by decide +kernel
theorem cd_173_85 : mt_cd 173 85 = some (.putfield 471) := by decide +kernel
theorem cd_173_88 : mt_cd 173 88 = some (.aload_n 0) := by decide +kernel
theorem cd_173_89 : mt_cd 173 89 = some (.lload_n 3) := by decide +kernel
theorem cd_173_90 : mt_cd 173 90 = some (.putfield 474) := by decide +kernel
theorem cd_173_93 : mt_cd 173 93 = some (.aload_n 0) := by decide +kernel
theorem cd_173_94 : mt_cd 173 94 = some (.getfield 445) := by decide +kernel
theorem cd_173_97 : mt_cd 173 97 = some (.aload_n 0) := by decide +kernel
theorem cd_173_98 : mt_cd 173 98 = some (.getfield 471) := by decide +kernel
theorem cd_173_101 : mt_cd 173 101 = some (.putfield 516) := by decide +kernel
theorem cd_173_104 : mt_cd 173 104 = some (.aload_n 0) := by decide +kernel
theorem cd_173_105 : mt_cd 173 105 = some (.invokevirtual 519) := by decide +kernel
theorem cd_173_108 : mt_cd 173 108 = some (.istore 6) := by decide +kernel
theorem cd_173_110 : mt_cd 173 110 = some (.iconst 0) := by decide +kernel
theorem cd_173_111 : mt_cd 173 111 = some (.istore 7) := by decide +kernel
theorem cd_173_113 : mt_cd 173 113 = some (.iload 7) := by decide +kernel
theorem cd_173_115 : mt_cd 173 115 = some (.iload 5) := by decide +kernel
theorem cd_173_117 : mt_cd 173 117 = some (.if_icmp .ge 33) := by decide +kernel
theorem cd_173_120 : mt_cd 173 120 = some (.iload 6) := by decide +kernel
theorem cd_173_122 : mt_cd 173 122 = some (.ifCond .ne 28) := by decide +kernel
theorem cd_173_125 : mt_cd 173 125 = some (.aload_n 0) := by decide +kernel
theorem cd_173_126 : mt_cd 173 126 = some (.iload 7) := by decide +kernel
theorem cd_173_128 : mt_cd 173 128 = some (.invokevirtual 522) := by decide +kernel
theorem cd_173_131 : mt_cd 173 131 = some (.istore 6) := by decide +kernel
theorem cd_173_133 : mt_cd 173 133 = some (.iload 6) := by decide +kernel
theorem cd_173_135 : mt_cd 173 135 = some (.ifCond .ne 9) := by decide +kernel
theorem cd_173_138 : mt_cd 173 138 = some (.aload_n 0) := by decide +kernel
theorem cd_173_139 : mt_cd 173 139 = some (.invokevirtual 519) := by decide +kernel
theorem cd_173_142 : mt_cd 173 142 = some (.istore 6) := by decide +kernel
theorem cd_173_144 : mt_cd 173 144 = some (.iinc 7 1) := by decide +kernel
theorem cd_173_147 : mt_cd 173 147 = some (.goto (-34)) := by decide +kernel
theorem cd_173_150 : mt_cd 173 150 = some (.iload 6) := by decide +kernel
theorem cd_173_152 : mt_cd 173 152 = some (.ifCond .eq 8) := by decide +kernel
theorem cd_173_155 : mt_cd 173 155 = some (.iload 6) := by decide +kernel
theorem cd_173_157 : mt_cd 173 157 = some (.goto 20) := by decide +kernel
theorem cd_173_160 : mt_cd 173 160 = some (.iload 5) := by decide +kernel
theorem cd_173_162 : mt_cd 173 162 = some (.ifCond .ne 14) := by decide +kernel
theorem cd_173_165 : mt_cd 173 165 = some (.aload_n 0) := by decide +kernel
theorem cd_173_166 : mt_cd 173 166 = some (.getfield 506) := by decide +kernel
theorem cd_173_169 : mt_cd 173 169 = some (.ifCond .ne 7) := by decide +kernel
theorem cd_173_172 : mt_cd 173 172 = some (.iconst 5) := by decide +kernel
theorem cd_173_173 : mt_cd 173 173 = some (.goto 4) := by decide +kernel
theorem cd_173_176 : mt_cd 173 176 = some (.iconst 0) := by decide +kernel
theorem cd_173_177 : mt_cd 173 177 = some (.ireturn) := by decide +kernel
theorem b_173_0 {d : Nat} {Q : (Option Value ⊕ Nat) → mi_H → Prop} (n sl : Nat) (f : Nat → mi_C) {l1 : Nat} {l2 : Int64} {l3 : Int64} {l4 : Int32} {o5 : Option Value} {o6 : Option Value} {fs7 : List Value} {fs11 : List Value} {fs15 : List Value} (h8 : f l1 = .inr (12, fs7)) (h9 : l1 < n) (h10 : 47 < fs7.length) (h12 : (va_up f l1 (.inr (12, fs7.set 47 (.int 0)))) l1 = .inr (12, fs11)) (h13 : l1 < n) (h14 : 48 < fs11.length) (h16 : (va_up (va_up f l1 (.inr (12, fs7.set 47 (.int 0)))) l1 (.inr (12, fs11.set 48 (.int 0)))) l1 = .inr (12, fs15)) (h17 : l1 < n) (h18 : 58 < fs15.length) (h19 : mi_fk .boolean (.int 0) = true) (h20 : mi_W d 173 18 [some (.ref l1), some (.long l2), none, some (.long l3), none, some (.int l4), some (.int 0), o6] [] (n, sl, (va_up (va_up (va_up f l1 (.inr (12, fs7.set 47 (.int 0)))) l1 (.inr (12, fs11.set 48 (.int 0)))) l1 (.inr (12, fs15.set 58 (.int 0))))) Q) : mi_W d 173 0 [some (.ref l1), some (.long l2), none, some (.long l3), none, some (.int l4), o5, o6] [] (n, sl, f) Q := by
  refine w_aload_n cd_173_0 rfl ?_
  refine w_iconst (v := 0) cd_173_1 (by decide) ?_
  refine w_putfield (w := .int 0) cd_173_2 (show mt_f 12 490 = some (12, 47) by decide +kernel) h8 h9 ⟨h10, rfl, Or.inl (by decide)⟩ ?_
  refine w_aload_n cd_173_5 rfl ?_
  refine w_iconst (v := 0) cd_173_6 (by decide) ?_
  refine w_putfield (w := .int 0) cd_173_7 (show mt_f 12 493 = some (12, 48) by decide +kernel) h12 h13 ⟨h14, rfl, Or.inl (by decide)⟩ ?_
  refine w_aload_n cd_173_10 rfl ?_
  refine w_iconst (v := 0) cd_173_11 (by decide) ?_
  refine w_putfield (w := .int 0) cd_173_12 (show mt_f 12 506 = some (12, 58) by decide +kernel) h16 h17 ⟨h18, h19, Or.inl (by decide)⟩ ?_
  refine w_iconst (v := 0) cd_173_15 (by decide) ?_
  refine w_istore (ls' := [some (.ref l1), some (.long l2), none, some (.long l3), none, some (.int l4), some (.int 0), o6]) cd_173_16 (Nat.le_of_ble_eq_true rfl) rfl ?_
  exact h20
theorem b_173_18 {d : Nat} {Q : (Option Value ⊕ Nat) → mi_H → Prop} (n sl : Nat) (f : Nat → mi_C) {l1 : Nat} {l2 : Int64} {l3 : Int64} {l4 : Int32} {l5 : Int32} {o6 : Option Value} (h7 : 32 ≤ l5 → mi_W d 173 39 [some (.ref l1), some (.long l2), none, some (.long l3), none, some (.int l4), some (.int l5), o6] [] (n, sl, f) Q) (h8 : ¬ (32 ≤ l5) → mi_W d 173 25 [some (.ref l1), some (.long l2), none, some (.long l3), none, some (.int l4), some (.int l5), o6] [] (n, sl, f) Q) : mi_W d 173 18 [some (.ref l1), some (.long l2), none, some (.long l3), none, some (.int l4), some (.int l5), o6] [] (n, sl, f) Q := by
  refine w_iload cd_173_18 rfl ?_
  refine w_bipush (v := 32) cd_173_20 (by decide) ?_
  exact w_if_icmpge cd_173_22 (by decide) h7 h8
theorem b_173_25 {d : Nat} {Q : (Option Value ⊕ Nat) → mi_H → Prop} (n sl : Nat) (f : Nat → mi_C) {l1 : Nat} {l2 : Int64} {l3 : Int64} {l4 : Int32} {l5 : Int32} {o6 : Option Value} {fs7 : List Value} {x10 : Nat} (m12 i12 : Nat) (g12 : Nat → Int64) (h8 : f l1 = .inr (12, fs7)) (h9 : l1 < n) (h11 : fs7[55]? = some (.ref x10)) (h13 : f x10 = .inl (3, m12, .inr (.inl g12))) (h14 : x10 < n) (h15 : mi_ix l5 m12 i12) (h16 : mi_W d 173 18 [some (.ref l1), some (.long l2), none, some (.long l3), none, some (.int l4), some (.int (l5 + 1)), o6] [] (n, sl, (va_up f x10 (.inl (3, m12, .inr (.inl (vp_updL g12 i12 0)))))) Q) : mi_W d 173 25 [some (.ref l1), some (.long l2), none, some (.long l3), none, some (.int l4), some (.int l5), o6] [] (n, sl, f) Q := by
  refine w_aload_n cd_173_25 rfl ?_
  refine w_getfield cd_173_26 (show mt_f 12 172 = some (12, 55) by decide +kernel) h8 h9 h11 ?_
  refine w_iload cd_173_29 rfl ?_
  refine w_lconst (lv := 0) cd_173_31 (by decide) ?_
  refine w_lastore cd_173_32 h13 h14 h15 ?_
  refine w_iinc (v := 1) (ls' := [some (.ref l1), some (.long l2), none, some (.long l3), none, some (.int l4), some (.int (l5 + 1)), o6]) cd_173_33 rfl (by decide) rfl ?_
  exact w_goto cd_173_36 (by decide) h16
theorem b_173_39 {d : Nat} {Q : (Option Value ⊕ Nat) → mi_H → Prop} (n sl : Nat) (f : Nat → mi_C) {l1 : Nat} {l2 : Int64} {l3 : Int64} {l4 : Int32} {l5 : Int32} {o6 : Option Value} (h7 : (0 : Int32) ≤ (lg_cmp l3 l2) → mi_W d 173 47 [some (.ref l1), some (.long l2), none, some (.long l3), none, some (.int l4), some (.int l5), o6] [] (n, sl, f) Q) (h8 : ¬ ((0 : Int32) ≤ (lg_cmp l3 l2)) → mi_W d 173 45 [some (.ref l1), some (.long l2), none, some (.long l3), none, some (.int l4), some (.int l5), o6] [] (n, sl, f) Q) : mi_W d 173 39 [some (.ref l1), some (.long l2), none, some (.long l3), none, some (.int l4), some (.int l5), o6] [] (n, sl, f) Q := by
  refine w_lload_n cd_173_39 rfl ?_
  refine w_lload_n cd_173_40 rfl ?_
  refine w_lcmp cd_173_41 ?_
  exact w_ifge cd_173_42 (by decide) h7 h8
theorem b_173_45 {d : Nat} {Q : (Option Value ⊕ Nat) → mi_H → Prop} (n sl : Nat) (f : Nat → mi_C) {l1 : Nat} {l2 : Int64} {l3 : Int64} {l4 : Int32} {l5 : Int32} {o6 : Option Value} (h7 : Q (.inl (some (.int 1))) (n, sl, f)) : mi_W d 173 45 [some (.ref l1), some (.long l2), none, some (.long l3), none, some (.int l4), some (.int l5), o6] [] (n, sl, f) Q := by
  refine w_iconst (v := 1) cd_173_45 (by decide) ?_
  exact w_ireturn_i cd_173_46 (by decide +kernel) h7
theorem b_173_47 {d : Nat} {Q : (Option Value ⊕ Nat) → mi_H → Prop} (n sl : Nat) (f : Nat → mi_C) {l1 : Nat} {l2 : Int64} {l3 : Int64} {l4 : Int32} {l5 : Int32} {o6 : Option Value} {fs7 : List Value} {x10 : Nat} {fs12 : List Value} {x15 : Int64} (h8 : f l1 = .inr (12, fs7)) (h9 : l1 < n) (h11 : fs7[43]? = some (.ref x10)) (h13 : f x10 = .inr (13, fs12)) (h14 : x10 < n) (h16 : fs12[1]? = some (.long x15)) (h17 : (0 : Int32) ≤ (lg_cmp l3 x15) → mi_W d 173 61 [some (.ref l1), some (.long l2), none, some (.long l3), none, some (.int l4), some (.int l5), o6] [] (n, sl, f) Q) (h18 : ¬ ((0 : Int32) ≤ (lg_cmp l3 x15)) → mi_W d 173 59 [some (.ref l1), some (.long l2), none, some (.long l3), none, some (.int l4), some (.int l5), o6] [] (n, sl, f) Q) : mi_W d 173 47 [some (.ref l1), some (.long l2), none, some (.long l3), none, some (.int l4), some (.int l5), o6] [] (n, sl, f) Q := by
  refine w_lload_n cd_173_47 rfl ?_
  refine w_aload_n cd_173_48 rfl ?_
  refine w_getfield cd_173_49 (show mt_f 12 445 = some (12, 43) by decide +kernel) h8 h9 h11 ?_
  refine w_getfield cd_173_52 (show mt_f 12 516 = some (13, 1) by decide +kernel) h13 h14 h16 ?_
  refine w_lcmp cd_173_55 ?_
  exact w_ifge cd_173_56 (by decide) h17 h18
theorem b_173_59 {d : Nat} {Q : (Option Value ⊕ Nat) → mi_H → Prop} (n sl : Nat) (f : Nat → mi_C) {l1 : Nat} {l2 : Int64} {l3 : Int64} {l4 : Int32} {l5 : Int32} {o6 : Option Value} (h7 : Q (.inl (some (.int 2))) (n, sl, f)) : mi_W d 173 59 [some (.ref l1), some (.long l2), none, some (.long l3), none, some (.int l4), some (.int l5), o6] [] (n, sl, f) Q := by
  refine w_iconst (v := 2) cd_173_59 (by decide) ?_
  exact w_ireturn_i cd_173_60 (by decide +kernel) h7
theorem b_173_61 {d : Nat} {Q : (Option Value ⊕ Nat) → mi_H → Prop} (n sl : Nat) (f : Nat → mi_C) {l1 : Nat} {l2 : Int64} {l3 : Int64} {l4 : Int32} {l5 : Int32} {o6 : Option Value} {fs7 : List Value} {x10 : Nat} {fs12 : List Value} {x15 : Int64} (h8 : f l1 = .inr (12, fs7)) (h9 : l1 < n) (h11 : fs7[43]? = some (.ref x10)) (h13 : f x10 = .inr (13, fs12)) (h14 : x10 < n) (h16 : fs12[1]? = some (.long x15)) (h17 : (0 : Int32) ≤ (lg_cmp l2 x15) → mi_W d 173 84 [some (.ref l1), some (.long l2), none, some (.long l3), none, some (.int l4), some (.int l5), o6] [.ref l1] (n, sl, f) Q) (h18 : ¬ ((0 : Int32) ≤ (lg_cmp l2 x15)) → mi_W d 173 74 [some (.ref l1), some (.long l2), none, some (.long l3), none, some (.int l4), some (.int l5), o6] [.ref l1] (n, sl, f) Q) : mi_W d 173 61 [some (.ref l1), some (.long l2), none, some (.long l3), none, some (.int l4), some (.int l5), o6] [] (n, sl, f) Q := by
  refine w_aload_n cd_173_61 rfl ?_
  refine w_lload_n cd_173_62 rfl ?_
  refine w_aload_n cd_173_63 rfl ?_
  refine w_getfield cd_173_64 (show mt_f 12 445 = some (12, 43) by decide +kernel) h8 h9 h11 ?_
  refine w_getfield cd_173_67 (show mt_f 12 516 = some (13, 1) by decide +kernel) h13 h14 h16 ?_
  refine w_lcmp cd_173_70 ?_
  exact w_ifge cd_173_71 (by decide) h17 h18
theorem b_173_74 {d : Nat} {Q : (Option Value ⊕ Nat) → mi_H → Prop} (n sl : Nat) (f : Nat → mi_C) {l1 : Nat} {l2 : Int64} {l3 : Int64} {l4 : Int32} {l5 : Int32} {o6 : Option Value} {s7 : Nat} {fs8 : List Value} {x11 : Nat} {fs13 : List Value} {x16 : Int64} (h9 : f l1 = .inr (12, fs8)) (h10 : l1 < n) (h12 : fs8[43]? = some (.ref x11)) (h14 : f x11 = .inr (13, fs13)) (h15 : x11 < n) (h17 : fs13[1]? = some (.long x16)) (h18 : mi_W d 173 85 [some (.ref l1), some (.long l2), none, some (.long l3), none, some (.int l4), some (.int l5), o6] [.long x16, .ref s7] (n, sl, f) Q) : mi_W d 173 74 [some (.ref l1), some (.long l2), none, some (.long l3), none, some (.int l4), some (.int l5), o6] [.ref s7] (n, sl, f) Q := by
  refine w_aload_n cd_173_74 rfl ?_
  refine w_getfield cd_173_75 (show mt_f 12 445 = some (12, 43) by decide +kernel) h9 h10 h12 ?_
  refine w_getfield cd_173_78 (show mt_f 12 516 = some (13, 1) by decide +kernel) h14 h15 h17 ?_
  exact w_goto cd_173_81 (by decide) h18
theorem b_173_84 {d : Nat} {Q : (Option Value ⊕ Nat) → mi_H → Prop} (n sl : Nat) (f : Nat → mi_C) {l1 : Nat} {l2 : Int64} {l3 : Int64} {l4 : Int32} {l5 : Int32} {o6 : Option Value} {s7 : Nat} (h8 : mi_W d 173 85 [some (.ref l1), some (.long l2), none, some (.long l3), none, some (.int l4), some (.int l5), o6] [.long l2, .ref s7] (n, sl, f) Q) : mi_W d 173 84 [some (.ref l1), some (.long l2), none, some (.long l3), none, some (.int l4), some (.int l5), o6] [.ref s7] (n, sl, f) Q := by
  refine w_lload_n cd_173_84 rfl ?_
  exact h8
theorem b_173_85 {d : Nat} {Q : (Option Value ⊕ Nat) → mi_H → Prop} (n sl : Nat) (f : Nat → mi_C) {l1 : Nat} {l2 : Int64} {l3 : Int64} {l4 : Int32} {l5 : Int32} {o6 : Option Value} {s7 : Int64} {s8 : Nat} {fs9 : List Value} {fs13 : List Value} {fs17 : List Value} {x20 : Nat} {fs22 : List Value} {x25 : Int64} {fs27 : List Value} {fs31 : List Value} (h10 : f s8 = .inr (12, fs9)) (h11 : s8 < n) (h12 : 44 < fs9.length) (h14 : (va_up f s8 (.inr (12, fs9.set 44 (.long s7)))) l1 = .inr (12, fs13)) (h15 : l1 < n) (h16 : 45 < fs13.length) (h18 : (va_up (va_up f s8 (.inr (12, fs9.set 44 (.long s7)))) l1 (.inr (12, fs13.set 45 (.long l3)))) l1 = .inr (12, fs17)) (h19 : l1 < n) (h21 : fs17[43]? = some (.ref x20)) (h23 : (va_up (va_up f s8 (.inr (12, fs9.set 44 (.long s7)))) l1 (.inr (12, fs13.set 45 (.long l3)))) l1 = .inr (12, fs22)) (h24 : l1 < n) (h26 : fs22[44]? = some (.long x25)) (h28 : (va_up (va_up f s8 (.inr (12, fs9.set 44 (.long s7)))) l1 (.inr (12, fs13.set 45 (.long l3)))) x20 = .inr (13, fs27)) (h29 : x20 < n) (h30 : 1 < fs27.length) (h32 : (va_up (va_up (va_up f s8 (.inr (12, fs9.set 44 (.long s7)))) l1 (.inr (12, fs13.set 45 (.long l3)))) x20 (.inr (13, fs27.set 1 (.long x25)))) l1 = .inr (12, fs31)) (h33 : l1 < n) (h34 : mi_W d 174 0 (mi_en 8 [.ref l1]) [] (n, sl, (va_up (va_up (va_up f s8 (.inr (12, fs9.set 44 (.long s7)))) l1 (.inr (12, fs13.set 45 (.long l3)))) x20 (.inr (13, fs27.set 1 (.long x25))))) (mi_Kc d 173 105 [some (.ref l1), some (.long l2), none, some (.long l3), none, some (.int l4), some (.int l5), o6] [] Q)) : mi_W (d + 1) 173 85 [some (.ref l1), some (.long l2), none, some (.long l3), none, some (.int l4), some (.int l5), o6] [.long s7, .ref s8] (n, sl, f) Q := by
  refine w_putfield (w := .long s7) cd_173_85 (show mt_f 12 471 = some (12, 44) by decide +kernel) h10 h11 ⟨h12, rfl, Or.inl (by decide)⟩ ?_
  refine w_aload_n cd_173_88 rfl ?_
  refine w_lload_n cd_173_89 rfl ?_
  refine w_putfield (w := .long l3) cd_173_90 (show mt_f 12 474 = some (12, 45) by decide +kernel) h14 h15 ⟨h16, rfl, Or.inl (by decide)⟩ ?_
  refine w_aload_n cd_173_93 rfl ?_
  refine w_getfield cd_173_94 (show mt_f 12 445 = some (12, 43) by decide +kernel) h18 h19 h21 ?_
  refine w_aload_n cd_173_97 rfl ?_
  refine w_getfield cd_173_98 (show mt_f 12 471 = some (12, 44) by decide +kernel) h23 h24 h26 ?_
  refine w_putfield (w := .long x25) cd_173_101 (show mt_f 12 516 = some (13, 1) by decide +kernel) h28 h29 ⟨h30, rfl, Or.inl (by decide)⟩ ?_
  refine w_aload_n cd_173_104 rfl ?_
  exact w_invokevirtual cd_173_105 (show mt_m 12 519 = some (174, 0) by decide +kernel) (rest := []) rfl (as := [.ref l1]) rfl h32 (Or.inl h33) ⟨Nat.le_of_ble_eq_true rfl, Nat.le_of_ble_eq_true rfl, Nat.le_of_ble_eq_true rfl⟩ h34
theorem b_173_108 {d : Nat} {Q : (Option Value ⊕ Nat) → mi_H → Prop} (n sl : Nat) (f : Nat → mi_C) {l1 : Nat} {l2 : Int64} {l3 : Int64} {l4 : Int32} {l5 : Int32} {o6 : Option Value} {s7 : Int32} (h8 : mi_W d 173 113 [some (.ref l1), some (.long l2), none, some (.long l3), none, some (.int l4), some (.int s7), some (.int 0)] [] (n, sl, f) Q) : mi_W d 173 108 [some (.ref l1), some (.long l2), none, some (.long l3), none, some (.int l4), some (.int l5), o6] [.int s7] (n, sl, f) Q := by
  refine w_istore (ls' := [some (.ref l1), some (.long l2), none, some (.long l3), none, some (.int l4), some (.int s7), o6]) cd_173_108 (Nat.le_of_ble_eq_true rfl) rfl ?_
  refine w_iconst (v := 0) cd_173_110 (by decide) ?_
  refine w_istore (ls' := [some (.ref l1), some (.long l2), none, some (.long l3), none, some (.int l4), some (.int s7), some (.int 0)]) cd_173_111 (Nat.le_of_ble_eq_true rfl) rfl ?_
  exact h8
theorem b_173_113 {d : Nat} {Q : (Option Value ⊕ Nat) → mi_H → Prop} (n sl : Nat) (f : Nat → mi_C) {l1 : Nat} {l2 : Int64} {l3 : Int64} {l4 : Int32} {l5 : Int32} {l6 : Int32} (h7 : l4 ≤ l6 → mi_W d 173 150 [some (.ref l1), some (.long l2), none, some (.long l3), none, some (.int l4), some (.int l5), some (.int l6)] [] (n, sl, f) Q) (h8 : ¬ (l4 ≤ l6) → mi_W d 173 120 [some (.ref l1), some (.long l2), none, some (.long l3), none, some (.int l4), some (.int l5), some (.int l6)] [] (n, sl, f) Q) : mi_W d 173 113 [some (.ref l1), some (.long l2), none, some (.long l3), none, some (.int l4), some (.int l5), some (.int l6)] [] (n, sl, f) Q := by
  refine w_iload cd_173_113 rfl ?_
  refine w_iload cd_173_115 rfl ?_
  exact w_if_icmpge cd_173_117 (by decide) h7 h8
theorem b_173_120 {d : Nat} {Q : (Option Value ⊕ Nat) → mi_H → Prop} (n sl : Nat) (f : Nat → mi_C) {l1 : Nat} {l2 : Int64} {l3 : Int64} {l4 : Int32} {l5 : Int32} {l6 : Int32} (h7 : ¬ l5 = (0 : Int32) → mi_W d 173 150 [some (.ref l1), some (.long l2), none, some (.long l3), none, some (.int l4), some (.int l5), some (.int l6)] [] (n, sl, f) Q) (h8 : ¬ (¬ l5 = (0 : Int32)) → mi_W d 173 125 [some (.ref l1), some (.long l2), none, some (.long l3), none, some (.int l4), some (.int l5), some (.int l6)] [] (n, sl, f) Q) : mi_W d 173 120 [some (.ref l1), some (.long l2), none, some (.long l3), none, some (.int l4), some (.int l5), some (.int l6)] [] (n, sl, f) Q := by
  refine w_iload cd_173_120 rfl ?_
  exact w_ifne cd_173_122 (by decide) h7 h8
theorem b_173_125 {d : Nat} {Q : (Option Value ⊕ Nat) → mi_H → Prop} (n sl : Nat) (f : Nat → mi_C) {l1 : Nat} {l2 : Int64} {l3 : Int64} {l4 : Int32} {l5 : Int32} {l6 : Int32} {fs7 : List Value} (h8 : f l1 = .inr (12, fs7)) (h9 : l1 < n) (h10 : mi_W d 182 0 (mi_en 9 [.ref l1, .int l6]) [] (n, sl, f) (mi_Kc d 173 128 [some (.ref l1), some (.long l2), none, some (.long l3), none, some (.int l4), some (.int l5), some (.int l6)] [] Q)) : mi_W (d + 1) 173 125 [some (.ref l1), some (.long l2), none, some (.long l3), none, some (.int l4), some (.int l5), some (.int l6)] [] (n, sl, f) Q := by
  refine w_aload_n cd_173_125 rfl ?_
  refine w_iload cd_173_126 rfl ?_
  exact w_invokevirtual cd_173_128 (show mt_m 12 522 = some (182, 0) by decide +kernel) (rest := []) rfl (as := [.ref l1, .int l6]) rfl h8 (Or.inl h9) ⟨Nat.le_of_ble_eq_true rfl, Nat.le_of_ble_eq_true rfl, Nat.le_of_ble_eq_true rfl⟩ h10
theorem b_173_131 {d : Nat} {Q : (Option Value ⊕ Nat) → mi_H → Prop} (n sl : Nat) (f : Nat → mi_C) {l1 : Nat} {l2 : Int64} {l3 : Int64} {l4 : Int32} {l5 : Int32} {l6 : Int32} {s7 : Int32} (h8 : ¬ s7 = (0 : Int32) → mi_W d 173 144 [some (.ref l1), some (.long l2), none, some (.long l3), none, some (.int l4), some (.int s7), some (.int l6)] [] (n, sl, f) Q) (h9 : ¬ (¬ s7 = (0 : Int32)) → mi_W d 173 138 [some (.ref l1), some (.long l2), none, some (.long l3), none, some (.int l4), some (.int s7), some (.int l6)] [] (n, sl, f) Q) : mi_W d 173 131 [some (.ref l1), some (.long l2), none, some (.long l3), none, some (.int l4), some (.int l5), some (.int l6)] [.int s7] (n, sl, f) Q := by
  refine w_istore (ls' := [some (.ref l1), some (.long l2), none, some (.long l3), none, some (.int l4), some (.int s7), some (.int l6)]) cd_173_131 (Nat.le_of_ble_eq_true rfl) rfl ?_
  refine w_iload cd_173_133 rfl ?_
  exact w_ifne cd_173_135 (by decide) h8 h9
theorem b_173_138 {d : Nat} {Q : (Option Value ⊕ Nat) → mi_H → Prop} (n sl : Nat) (f : Nat → mi_C) {l1 : Nat} {l2 : Int64} {l3 : Int64} {l4 : Int32} {l5 : Int32} {l6 : Int32} {fs7 : List Value} (h8 : f l1 = .inr (12, fs7)) (h9 : l1 < n) (h10 : mi_W d 174 0 (mi_en 8 [.ref l1]) [] (n, sl, f) (mi_Kc d 173 139 [some (.ref l1), some (.long l2), none, some (.long l3), none, some (.int l4), some (.int l5), some (.int l6)] [] Q)) : mi_W (d + 1) 173 138 [some (.ref l1), some (.long l2), none, some (.long l3), none, some (.int l4), some (.int l5), some (.int l6)] [] (n, sl, f) Q := by
  refine w_aload_n cd_173_138 rfl ?_
  exact w_invokevirtual cd_173_139 (show mt_m 12 519 = some (174, 0) by decide +kernel) (rest := []) rfl (as := [.ref l1]) rfl h8 (Or.inl h9) ⟨Nat.le_of_ble_eq_true rfl, Nat.le_of_ble_eq_true rfl, Nat.le_of_ble_eq_true rfl⟩ h10
theorem b_173_142 {d : Nat} {Q : (Option Value ⊕ Nat) → mi_H → Prop} (n sl : Nat) (f : Nat → mi_C) {l1 : Nat} {l2 : Int64} {l3 : Int64} {l4 : Int32} {l5 : Int32} {l6 : Int32} {s7 : Int32} (h8 : mi_W d 173 144 [some (.ref l1), some (.long l2), none, some (.long l3), none, some (.int l4), some (.int s7), some (.int l6)] [] (n, sl, f) Q) : mi_W d 173 142 [some (.ref l1), some (.long l2), none, some (.long l3), none, some (.int l4), some (.int l5), some (.int l6)] [.int s7] (n, sl, f) Q := by
  refine w_istore (ls' := [some (.ref l1), some (.long l2), none, some (.long l3), none, some (.int l4), some (.int s7), some (.int l6)]) cd_173_142 (Nat.le_of_ble_eq_true rfl) rfl ?_
  exact h8
theorem b_173_144 {d : Nat} {Q : (Option Value ⊕ Nat) → mi_H → Prop} (n sl : Nat) (f : Nat → mi_C) {l1 : Nat} {l2 : Int64} {l3 : Int64} {l4 : Int32} {l5 : Int32} {l6 : Int32} (h7 : mi_W d 173 113 [some (.ref l1), some (.long l2), none, some (.long l3), none, some (.int l4), some (.int l5), some (.int (l6 + 1))] [] (n, sl, f) Q) : mi_W d 173 144 [some (.ref l1), some (.long l2), none, some (.long l3), none, some (.int l4), some (.int l5), some (.int l6)] [] (n, sl, f) Q := by
  refine w_iinc (v := 1) (ls' := [some (.ref l1), some (.long l2), none, some (.long l3), none, some (.int l4), some (.int l5), some (.int (l6 + 1))]) cd_173_144 rfl (by decide) rfl ?_
  exact w_goto cd_173_147 (by decide) h7
theorem b_173_150 {d : Nat} {Q : (Option Value ⊕ Nat) → mi_H → Prop} (n sl : Nat) (f : Nat → mi_C) {l1 : Nat} {l2 : Int64} {l3 : Int64} {l4 : Int32} {l5 : Int32} {l6 : Int32} (h7 : l5 = (0 : Int32) → mi_W d 173 160 [some (.ref l1), some (.long l2), none, some (.long l3), none, some (.int l4), some (.int l5), some (.int l6)] [] (n, sl, f) Q) (h8 : ¬ (l5 = (0 : Int32)) → mi_W d 173 155 [some (.ref l1), some (.long l2), none, some (.long l3), none, some (.int l4), some (.int l5), some (.int l6)] [] (n, sl, f) Q) : mi_W d 173 150 [some (.ref l1), some (.long l2), none, some (.long l3), none, some (.int l4), some (.int l5), some (.int l6)] [] (n, sl, f) Q := by
  refine w_iload cd_173_150 rfl ?_
  exact w_ifeq cd_173_152 (by decide) h7 h8
theorem b_173_155 {d : Nat} {Q : (Option Value ⊕ Nat) → mi_H → Prop} (n sl : Nat) (f : Nat → mi_C) {l1 : Nat} {l2 : Int64} {l3 : Int64} {l4 : Int32} {l5 : Int32} {l6 : Int32} (h7 : mi_W d 173 177 [some (.ref l1), some (.long l2), none, some (.long l3), none, some (.int l4), some (.int l5), some (.int l6)] [.int l5] (n, sl, f) Q) : mi_W d 173 155 [some (.ref l1), some (.long l2), none, some (.long l3), none, some (.int l4), some (.int l5), some (.int l6)] [] (n, sl, f) Q := by
  refine w_iload cd_173_155 rfl ?_
  exact w_goto cd_173_157 (by decide) h7
theorem b_173_160 {d : Nat} {Q : (Option Value ⊕ Nat) → mi_H → Prop} (n sl : Nat) (f : Nat → mi_C) {l1 : Nat} {l2 : Int64} {l3 : Int64} {l4 : Int32} {l5 : Int32} {l6 : Int32} (h7 : ¬ l4 = (0 : Int32) → mi_W d 173 176 [some (.ref l1), some (.long l2), none, some (.long l3), none, some (.int l4), some (.int l5), some (.int l6)] [] (n, sl, f) Q) (h8 : ¬ (¬ l4 = (0 : Int32)) → mi_W d 173 165 [some (.ref l1), some (.long l2), none, some (.long l3), none, some (.int l4), some (.int l5), some (.int l6)] [] (n, sl, f) Q) : mi_W d 173 160 [some (.ref l1), some (.long l2), none, some (.long l3), none, some (.int l4), some (.int l5), some (.int l6)] [] (n, sl, f) Q := by
  refine w_iload cd_173_160 rfl ?_
  exact w_ifne cd_173_162 (by decide) h7 h8
theorem b_173_165 {d : Nat} {Q : (Option Value ⊕ Nat) → mi_H → Prop} (n sl : Nat) (f : Nat → mi_C) {l1 : Nat} {l2 : Int64} {l3 : Int64} {l4 : Int32} {l5 : Int32} {l6 : Int32} {fs7 : List Value} {x10 : Int32} (h8 : f l1 = .inr (12, fs7)) (h9 : l1 < n) (h11 : fs7[58]? = some (.int x10)) (h12 : ¬ x10 = (0 : Int32) → mi_W d 173 176 [some (.ref l1), some (.long l2), none, some (.long l3), none, some (.int l4), some (.int l5), some (.int l6)] [] (n, sl, f) Q) (h13 : ¬ (¬ x10 = (0 : Int32)) → mi_W d 173 172 [some (.ref l1), some (.long l2), none, some (.long l3), none, some (.int l4), some (.int l5), some (.int l6)] [] (n, sl, f) Q) : mi_W d 173 165 [some (.ref l1), some (.long l2), none, some (.long l3), none, some (.int l4), some (.int l5), some (.int l6)] [] (n, sl, f) Q := by
  refine w_aload_n cd_173_165 rfl ?_
  refine w_getfield cd_173_166 (show mt_f 12 506 = some (12, 58) by decide +kernel) h8 h9 h11 ?_
  exact w_ifne cd_173_169 (by decide) h12 h13
theorem b_173_172 {d : Nat} {Q : (Option Value ⊕ Nat) → mi_H → Prop} (n sl : Nat) (f : Nat → mi_C) {l1 : Nat} {l2 : Int64} {l3 : Int64} {l4 : Int32} {l5 : Int32} {l6 : Int32} (h7 : mi_W d 173 177 [some (.ref l1), some (.long l2), none, some (.long l3), none, some (.int l4), some (.int l5), some (.int l6)] [.int 5] (n, sl, f) Q) : mi_W d 173 172 [some (.ref l1), some (.long l2), none, some (.long l3), none, some (.int l4), some (.int l5), some (.int l6)] [] (n, sl, f) Q := by
  refine w_iconst (v := 5) cd_173_172 (by decide) ?_
  exact w_goto cd_173_173 (by decide) h7
theorem b_173_176 {d : Nat} {Q : (Option Value ⊕ Nat) → mi_H → Prop} (n sl : Nat) (f : Nat → mi_C) {l1 : Nat} {l2 : Int64} {l3 : Int64} {l4 : Int32} {l5 : Int32} {l6 : Int32} (h7 : mi_W d 173 177 [some (.ref l1), some (.long l2), none, some (.long l3), none, some (.int l4), some (.int l5), some (.int l6)] [.int 0] (n, sl, f) Q) : mi_W d 173 176 [some (.ref l1), some (.long l2), none, some (.long l3), none, some (.int l4), some (.int l5), some (.int l6)] [] (n, sl, f) Q := by
  refine w_iconst (v := 0) cd_173_176 (by decide) ?_
  exact h7
theorem b_173_177 {d : Nat} {Q : (Option Value ⊕ Nat) → mi_H → Prop} (n sl : Nat) (f : Nat → mi_C) {l1 : Nat} {l2 : Int64} {l3 : Int64} {l4 : Int32} {l5 : Int32} {l6 : Int32} {s7 : Int32} (h8 : Q (.inl (some (.int s7))) (n, sl, f)) : mi_W d 173 177 [some (.ref l1), some (.long l2), none, some (.long l3), none, some (.int l4), some (.int l5), some (.int l6)] [.int s7] (n, sl, f) Q := by
  exact w_ireturn_i cd_173_177 (by decide +kernel) h8
/-! MarloweHostModel.reduce()I -/
theorem cd_174_0 : mt_cd 174 0 = some (.aload_n 0) := by decide +kernel
theorem cd_174_1 : mt_cd 174 1 = some (.getfield 445) := by decide +kernel
theorem cd_174_4 : mt_cd 174 4 = some (.getfield 496) := by decide +kernel
theorem cd_174_7 : mt_cd 174 7 = some (.istore_n 1) := by decide +kernel
theorem cd_174_8 : mt_cd 174 8 = some (.aload_n 0) := by decide +kernel
theorem cd_174_9 : mt_cd 174 9 = some (.iconst 0) := by decide +kernel
theorem cd_174_10 : mt_cd 174 10 = some (.putfield 441) := by decide +kernel
theorem cd_174_13 : mt_cd 174 13 = some (.aload_n 0) := by decide +kernel
theorem cd_174_14 : mt_cd 174 14 = some (.getfield 77) := by decide +kernel
theorem cd_174_17 : mt_cd 174 17 = some (.iload_n 1) := by decide +kernel
theorem cd_174_18 : mt_cd 174 18 = some (.iaload) := by decide +kernel
theorem cd_174_19 : mt_cd 174 19 = some (.tableswitch 535 0 5 #[37, 108, 108, 347, 397, 445]) := by decide +kernel
theorem cd_174_56 : mt_cd 174 56 = some (.iconst 0) := by decide +kernel
theorem cd_174_57 : mt_cd 174 57 = some (.istore_n 2) := by decide +kernel
theorem cd_174_58 : mt_cd 174 58 = some (.iload_n 2) := by decide +kernel
theorem cd_174_59 : mt_cd 174 59 = some (.bipush 32) := by decide +kernel
theorem cd_174_61 : mt_cd 174 61 = some (.if_icmp .ge 23) := by decide +kernel
theorem cd_174_64 : mt_cd 174 64 = some (.aload_n 0) := by decide +kernel
theorem cd_174_65 : mt_cd 174 65 = some (.getfield 445) := by decide +kernel
theorem cd_174_68 : mt_cd 174 68 = some (.getfield 448) := by decide +kernel
theorem cd_174_71 : mt_cd 174 71 = some (.iload_n 2) := by decide +kernel
theorem cd_174_72 : mt_cd 174 72 = some (.laload) := by decide +kernel
theorem cd_174_73 : mt_cd 174 73 = some (.lconst 0) := by decide +kernel
theorem cd_174_74 : mt_cd 174 74 = some (.lcmp) := by decide +kernel
theorem cd_174_75 : mt_cd 174 75 = some (.ifCond .ne 9) := by decide +kernel
theorem cd_174_78 : mt_cd 174 78 = some (.iinc 2 1) := by decide +kernel
theorem cd_174_81 : mt_cd 174 81 = some (.goto (-23)) := by decide +kernel
theorem cd_174_84 : mt_cd 174 84 = some (.iload_n 2) := by decide +kernel
theorem cd_174_85 : mt_cd 174 85 = some (.bipush 32) := by decide +kernel
theorem cd_174_87 : mt_cd 174 87 = some (.if_icmp .ne 5) := by decide +kernel
theorem cd_174_90 : mt_cd 174 90 = some (.iconst 0) := by decide +kernel
theorem cd_174_91 : mt_cd 174 91 = some (.ireturn) := by decide +kernel
theorem cd_174_92 : mt_cd 174 92 = some (.aload_n 0) := by decide +kernel
theorem cd_174_93 : mt_cd 174 93 = some (.iload_n 2) := by decide +kernel
theorem cd_174_94 : mt_cd 174 94 = some (.iconst 4) := by decide +kernel
theorem cd_174_95 : mt_cd 174 95 = some (.idiv) := by decide +kernel
theorem cd_174_96 : mt_cd 174 96 = some (.iload_n 2) := by decide +kernel
theorem cd_174_97 : mt_cd 174 97 = some (.iconst 4) := by decide +kernel
theorem cd_174_98 : mt_cd 174 98 = some (.idiv) := by decide +kernel
theorem cd_174_99 : mt_cd 174 99 = some (.iload_n 2) := by decide +kernel
theorem cd_174_100 : mt_cd 174 100 = some (.iconst 4) := by decide +kernel
theorem cd_174_101 : mt_cd 174 101 = some (.irem) := by decide +kernel
theorem cd_174_102 : mt_cd 174 102 = some (.aload_n 0) := by decide +kernel
theorem cd_174_103 : mt_cd 174 103 = some (.getfield 445) := by decide +kernel
theorem cd_174_106 : mt_cd 174 106 = some (.getfield 448) := by decide +kernel
theorem cd_174_109 : mt_cd 174 109 = some (.iload_n 2) := by decide +kernel
theorem cd_174_110 : mt_cd 174 110 = some (.laload) := by decide +kernel
theorem cd_174_111 : mt_cd 174 111 = some (.invokevirtual 499) := by decide +kernel
theorem cd_174_114 : mt_cd 174 114 = some (.aload_n 0) := by decide +kernel
theorem cd_174_115 : mt_cd 174 115 = some (.getfield 445) := by decide +kernel
theorem cd_174_118 : mt_cd 174 118 = some (.getfield 448) := by decide +kernel
theorem cd_174_121 : mt_cd 174 121 = some (.iload_n 2) := by decide +kernel
theorem cd_174_122 : mt_cd 174 122 = some (.lconst 0) := by decide +kernel
theorem cd_174_123 : mt_cd 174 123 = some (.lastore) := by decide +kernel
theorem cd_174_124 : mt_cd 174 124 = some (.goto 474) := by decide +kernel
theorem cd_174_127 : mt_cd 174 127 = some (.aload_n 0) := by decide +kernel
theorem cd_174_128 : mt_cd 174 128 = some (.aload_n 0) := by decide +kernel
theorem cd_174_129 : mt_cd 174 129 = some (.getfield 89) := by decide +kernel
theorem cd_174_132 : mt_cd 174 132 = some (.iload_n 1) := by decide +kernel
theorem cd_174_133 : mt_cd 174 133 = some (.iaload) := by decide +kernel
theorem cd_174_134 : mt_cd 174 134 = some (.invokevirtual 451) := by decide +kernel
theorem cd_174_137 : mt_cd 174 137 = some (.lstore_n 2) := by decide +kernel
theorem cd_174_138 : mt_cd 174 138 = some (.aload_n 0) := by decide +kernel
theorem cd_174_139 : mt_cd 174 139 = some (.getfield 441) := by decide +kernel
theorem cd_174_142 : mt_cd 174 142 = some (.ifCond .eq 6) := by decide +kernel
theorem cd_174_145 : mt_cd 174 145 = some (.bipush 6) := by decide +kernel
theorem cd_174_147 : mt_cd 174 147 = some (.ireturn) := by decide +kernel
theorem cd_174_148 : mt_cd 174 148 = some (.lload_n 2) := by decide +kernel
theorem cd_174_149 : mt_cd 174 149 = some (.lconst 0) := by decide +kernel
theorem cd_174_150 : mt_cd 174 150 = some (.lcmp) := by decide +kernel
theorem cd_174_151 : mt_cd 174 151 = some (.ifCond .gt 12) := by decide +kernel
theorem cd_174_154 : mt_cd 174 154 = some (.aload_n 0) := by decide +kernel
theorem cd_174_155 : mt_cd 174 155 = some (.iconst 2) := by decide +kernel
theorem cd_174_156 : mt_cd 174 156 = some (.iload_n 1) := by decide +kernel
theorem cd_174_157 : mt_cd 174 157 = some (.invokevirtual 502) := by decide +kernel
theorem cd_174_160 : mt_cd 174 160 = some (.goto 190) := by decide +kernel
theorem cd_174_163 : mt_cd 174 163 = some (.iconst 4) := by decide +kernel
theorem cd_174_164 : mt_cd 174 164 = some (.aload_n 0) := by decide +kernel
theorem cd_174_165 : mt_cd 174 165 = some (.getfield 80) := by decide +kernel
theorem cd_174_168 : mt_cd 174 168 = some (.iload_n 1) := by decide +kernel
theorem cd_174_169 : mt_cd 174 169 = some (.iaload) := by decide +kernel
theorem cd_174_170 : mt_cd 174 170 = some (.imul) := by decide +kernel
theorem cd_174_171 : mt_cd 174 171 = some (.aload_n 0) := by decide +kernel
theorem cd_174_172 : mt_cd 174 172 = some (.getfield 86) := by decide +kernel
theorem cd_174_175 : mt_cd 174 175 = some (.iload_n 1) := by decide +kernel
theorem cd_174_176 : mt_cd 174 176 = some (.iaload) := by decide +kernel
theorem cd_174_177 : mt_cd 174 177 = some (.iadd) := by decide +kernel
theorem cd_174_178 : mt_cd 174 178 = some (.istore 4) := by decide +kernel
theorem cd_174_180 : mt_cd 174 180 = some (.lload_n 2) := by decide +kernel
theorem cd_174_181 : mt_cd 174 181 = some (.aload_n 0) := by decide +kernel
theorem cd_174_182 : mt_cd 174 182 = some (.getfield 445) := by decide +kernel
theorem cd_174_185 : mt_cd 174 185 = some (.getfield 448) := by decide +kernel
theorem cd_174_188 : mt_cd 174 188 = some (.iload 4) := by decide +kernel
theorem cd_174_190 : mt_cd 174 190 = some (.laload) := by decide +kernel
theorem cd_174_191 : mt_cd 174 191 = some (.lcmp) := by decide +kernel
theorem cd_174_192 : mt_cd 174 192 = some (.ifCond .ge 7) := by decide +kernel
theorem cd_174_195 : mt_cd 174 195 = some (.lload_n 2) := by decide +kernel
theorem cd_174_196 : mt_cd 174 196 = some (.goto 13) := by decide +kernel
theorem cd_174_199 : mt_cd 174 199 = some (.aload_n 0) := by decide +kernel
theorem cd_174_200 : mt_cd 174 200 = some (.getfield 445) := by decide +kernel
theorem cd_174_203 : mt_cd 174 203 = some (.getfield 448) := by decide +kernel
theorem cd_174_206 : mt_cd 174 206 = some (.iload 4) := by decide +kernel
theorem cd_174_208 : mt_cd 174 208 = some (.laload) := by decide +kernel
theorem cd_174_209 : mt_cd 174 209 = some (.lstore 5) := by decide +kernel
theorem cd_174_211 : mt_cd 174 211 = some (.lload 5) := by decide +kernel
theorem cd_174_213 : mt_cd 174 213 = some (.lload_n 2) := by decide +kernel
theorem cd_174_214 : mt_cd 174 214 = some (.lcmp) := by decide +kernel
theorem cd_174_215 : mt_cd 174 215 = some (.ifCond .ge 9) := by decide +kernel
theorem cd_174_218 : mt_cd 174 218 = some (.aload_n 0) := by decide +kernel
theorem cd_174_219 : mt_cd 174 219 = some (.iconst 3) := by decide +kernel
theorem cd_174_220 : mt_cd 174 220 = some (.iload_n 1) := by decide +kernel
theorem cd_174_221 : mt_cd 174 221 = some (.invokevirtual 502) := by decide +kernel
theorem cd_174_224 : mt_cd 174 224 = some (.aload_n 0) := by decide +kernel
theorem cd_174_225 : mt_cd 174 225 = some (.getfield 445) := by decide +kernel
theorem cd_174_228 : mt_cd 174 228 = some (.getfield 448) := by decide +kernel
theorem cd_174_231 : mt_cd 174 231 = some (.iload 4) := by decide +kernel
theorem cd_174_233 : mt_cd 174 233 = some (.dup2) := by decide +kernel
theorem cd_174_234 : mt_cd 174 234 = some (.laload) := by decide +kernel
theorem cd_174_235 : mt_cd 174 235 = some (.lload 5) := by decide +kernel
theorem cd_174_237 : mt_cd 174 237 = some (.lsub) := by decide +kernel
theorem cd_174_238 : mt_cd 174 238 = some (.lastore) := by decide +kernel
theorem cd_174_239 : mt_cd 174 239 = some (.aload_n 0) := by decide +kernel
theorem cd_174_240 : mt_cd 174 240 = some (.getfield 77) := by decide +kernel
theorem cd_174_243 : mt_cd 174 243 = some (.iload_n 1) := by decide +kernel
theorem cd_174_244 : mt_cd 174 244 = some (.iaload) := by decide +kernel
theorem cd_174_245 : mt_cd 174 245 = some (.iconst 1) := by decide +kernel
theorem cd_174_246 : mt_cd 174 246 = some (.if_icmp .ne 37) := by decide +kernel
theorem cd_174_249 : mt_cd 174 249 = some (.lload 5) := by decide +kernel
theorem cd_174_251 : mt_cd 174 251 = some (.lconst 0) := by decide +kernel
theorem cd_174_252 : mt_cd 174 252 = some (.lcmp) := by decide +kernel
theorem cd_174_253 : mt_cd 174 253 = some (.ifCond .le 97) := by decide +kernel
theorem cd_174_256 : mt_cd 174 256 = some (.aload_n 0) := by decide +kernel
theorem cd_174_257 : mt_cd 174 257 = some (.aload_n 0) := by decide +kernel
theorem cd_174_258 : mt_cd 174 258 = some (.getfield 80) := by decide +kernel
theorem cd_174_261 : mt_cd 174 261 = some (.iload_n 1) := by decide +kernel
theorem cd_174_262 : mt_cd 174 262 = some (.iaload) := by decide +kernel
theorem cd_174_263 : mt_cd 174 263 = some (.aload_n 0) := by decide +kernel
theorem cd_174_264 : mt_cd 174 264 = some (.getfield 83) := by decide +kernel
theorem cd_174_267 : mt_cd 174 267 = some (.iload_n 1) := by decide +kernel
theorem cd_174_268 : mt_cd 174 268 = some (.iaload) := by decide +kernel
theorem cd_174_269 : mt_cd 174 269 = some (.aload_n 0) := by decide +kernel
theorem cd_174_270 : mt_cd 174 270 = some (.getfield 86) := by decide +kernel
theorem cd_174_273 : mt_cd 174 273 = some (.iload_n 1) := by decide +kernel
theorem cd_174_274 : mt_cd 174 274 = some (.iaload) := by decide +kernel
theorem cd_174_275 : mt_cd 174 275 = some (.lload 5) := by decide +kernel
theorem cd_174_277 : mt_cd 174 277 = some (.invokevirtual 499) := by decide +kernel
theorem cd_174_280 : mt_cd 174 280 = some (.goto 70) := by decide +kernel
theorem cd_174_283 : mt_cd 174 283 = some (.iconst 4) := by decide +kernel
theorem cd_174_284 : mt_cd 174 284 = some (.aload_n 0) := by decide +kernel
theorem cd_174_285 : mt_cd 174 285 = some (.getfield 83) := by decide +kernel
theorem cd_174_288 : mt_cd 174 288 = some (.iload_n 1) := by decide +kernel
theorem cd_174_289 : mt_cd 174 289 = some (.iaload) := by decide +kernel
theorem cd_174_290 : mt_cd 174 290 = some (.imul) := by decide +kernel
theorem cd_174_291 : mt_cd 174 291 = some (.aload_n 0) := by decide +kernel
theorem cd_174_292 : mt_cd 174 292 = some (.getfield 86) := by decide +kernel
theorem cd_174_295 : mt_cd 174 295 = some (.iload_n 1) := by decide +kernel
theorem cd_174_296 : mt_cd 174 296 = some (.iaload) := by decide +kernel
theorem cd_174_297 : mt_cd 174 297 = some (.iadd) := by decide +kernel
theorem cd_174_298 : mt_cd 174 298 = some (.istore 7) := by decide +kernel
theorem cd_174_300 : mt_cd 174 300 = some (.aload_n 0) := by decide +kernel
theorem cd_174_301 : mt_cd 174 301 = some (.getfield 445) := by decide +kernel
theorem cd_174_304 : mt_cd 174 304 = some (.getfield 448) := by decide +kernel
theorem cd_174_307 : mt_cd 174 307 = some (.iload 7) := by decide +kernel
theorem cd_174_309 : mt_cd 174 309 = some (.dup2) := by decide +kernel
theorem cd_174_310 : mt_cd 174 310 = some (.laload) := by decide +kernel
theorem cd_174_311 : mt_cd 174 311 = some (.lload 5) := by decide +kernel
theorem cd_174_313 : mt_cd 174 313 = some (.ladd) := by decide +kernel
theorem cd_174_314 : mt_cd 174 314 = some (.lastore) := by decide +kernel
theorem cd_174_315 : mt_cd 174 315 = some (.aload_n 0) := by decide +kernel
theorem cd_174_316 : mt_cd 174 316 = some (.getfield 445) := by decide +kernel
theorem cd_174_319 : mt_cd 174 319 = some (.getfield 448) := by decide +kernel
theorem cd_174_322 : mt_cd 174 322 = some (.iload 7) := by decide +kernel
theorem cd_174_324 : mt_cd 174 324 = some (.laload) := by decide +kernel
theorem cd_174_325 : mt_cd 174 325 = some (.ldc2_w 437) := by decide +kernel
theorem cd_174_328 : mt_cd 174 328 = some (.lcmp) := by decide +kernel
theorem cd_174_329 : mt_cd 174 329 = some (.ifCond .gt 18) := by decide +kernel
theorem cd_174_332 : mt_cd 174 332 = some (.aload_n 0) := by decide +kernel
theorem cd_174_333 : mt_cd 174 333 = some (.getfield 445) := by decide +kernel
theorem cd_174_336 : mt_cd 174 336 = some (.getfield 448) := by decide +kernel
theorem cd_174_339 : mt_cd 174 339 = some (.iload 7) := by decide +kernel
theorem cd_174_341 : mt_cd 174 341 = some (.laload) := by decide +kernel
theorem cd_174_342 : mt_cd 174 342 = some (.lconst 0) := by decide +kernel
theorem cd_174_343 : mt_cd 174 343 = some (.lcmp) := by decide +kernel
theorem cd_174_344 : mt_cd 174 344 = some (.ifCond .ge 6) := by decide +kernel
theorem cd_174_347 : mt_cd 174 347 = some (.bipush 6) := by decide +kernel
theorem cd_174_349 : mt_cd 174 349 = some (.ireturn) := by decide +kernel
theorem cd_174_350 : mt_cd 174 350 = some (.aload_n 0) := by decide +kernel
theorem cd_174_351 : mt_cd 174 351 = some (.getfield 445) := by decide +kernel
theorem cd_174_354 : mt_cd 174 354 = some (.aload_n 0) := by decide +kernel
theorem cd_174_355 : mt_cd 174 355 = some (.getfield 98) := by decide +kernel
theorem cd_174_358 : mt_cd 174 358 = some (.iload_n 1) := by decide +kernel
theorem cd_174_359 : mt_cd 174 359 = some (.iaload) := by decide +kernel
theorem cd_174_360 : mt_cd 174 360 = some (.putfield 496) := by decide +kernel
theorem cd_174_363 : mt_cd 174 363 = some (.goto 235) := by decide +kernel
theorem cd_174_366 : mt_cd 174 366 = some (.aload_n 0) := by decide +kernel
theorem cd_174_367 : mt_cd 174 367 = some (.aload_n 0) := by decide +kernel
theorem cd_174_368 : mt_cd 174 368 = some (.getfield 89) := by decide +kernel
theorem cd_174_371 : mt_cd 174 371 = some (.iload_n 1) := by decide +kernel
theorem cd_174_372 : mt_cd 174 372 = some (.iaload) := by decide +kernel
theorem cd_174_373 : mt_cd 174 373 = some (.invokevirtual 477) := by decide +kernel
theorem cd_174_376 : mt_cd 174 376 = some (.istore_n 2) := by decide +kernel
theorem cd_174_377 : mt_cd 174 377 = some (.aload_n 0) := by decide +kernel
theorem cd_174_378 : mt_cd 174 378 = some (.getfield 441) := by decide +kernel
theorem cd_174_381 : mt_cd 174 381 = some (.ifCond .eq 6) := by decide +kernel
theorem cd_174_384 : mt_cd 174 384 = some (.bipush 6) := by decide +kernel
theorem cd_174_386 : mt_cd 174 386 = some (.ireturn) := by decide +kernel
theorem cd_174_387 : mt_cd 174 387 = some (.aload_n 0) := by decide +kernel
theorem cd_174_388 : mt_cd 174 388 = some (.getfield 445) := by decide +kernel
theorem cd_174_391 : mt_cd 174 391 = some (.iload_n 2) := by decide +kernel
theorem cd_174_392 : mt_cd 174 392 = some (.ifCond .eq 12) := by decide +kernel
theorem cd_174_395 : mt_cd 174 395 = some (.aload_n 0) := by decide +kernel
theorem cd_174_396 : mt_cd 174 396 = some (.getfield 80) := by decide +kernel
theorem cd_174_399 : mt_cd 174 399 = some (.iload_n 1) := by decide +kernel
theorem cd_174_400 : mt_cd 174 400 = some (.iaload) := by decide +kernel
theorem cd_174_401 : mt_cd 174 401 = some (.goto 9) := by decide +kernel
theorem cd_174_404 : mt_cd 174 404 = some (.aload_n 0) := by decide +kernel
theorem cd_174_405 : mt_cd 174 405 = some (.getfield 83) := by decide +kernel
theorem cd_174_408 : mt_cd 174 408 = some (.iload_n 1) := by decide +kernel
theorem cd_174_409 : mt_cd 174 409 = some (.iaload) := by decide +kernel
theorem cd_174_410 : mt_cd 174 410 = some (.putfield 496) := by decide +kernel
theorem cd_174_413 : mt_cd 174 413 = some (.goto 185) := by decide +kernel
theorem cd_174_416 : mt_cd 174 416 = some (.aload_n 0) := by decide +kernel
theorem cd_174_417 : mt_cd 174 417 = some (.getfield 474) := by decide +kernel
theorem cd_174_420 : mt_cd 174 420 = some (.aload_n 0) := by decide +kernel
theorem cd_174_421 : mt_cd 174 421 = some (.getfield 101) := by decide +kernel
theorem cd_174_424 : mt_cd 174 424 = some (.iload_n 1) := by decide +kernel
theorem cd_174_425 : mt_cd 174 425 = some (.laload) := by decide +kernel
theorem cd_174_426 : mt_cd 174 426 = some (.lcmp) := by decide +kernel
theorem cd_174_427 : mt_cd 174 427 = some (.ifCond .ge 5) := by decide +kernel
theorem cd_174_430 : mt_cd 174 430 = some (.iconst 0) := by decide +kernel
theorem cd_174_431 : mt_cd 174 431 = some (.ireturn) := by decide +kernel
theorem cd_174_432 : mt_cd 174 432 = some (.aload_n 0) := by decide +kernel
theorem cd_174_433 : mt_cd 174 433 = some (.getfield 101) := by decide +kernel
theorem cd_174_436 : mt_cd 174 436 = some (.iload_n 1) := by decide +kernel
theorem cd_174_437 : mt_cd 174 437 = some (.laload) := by decide +kernel
theorem cd_174_438 : mt_cd 174 438 = some (.aload_n 0) := by decide +kernel
theorem cd_174_439 : mt_cd 174 439 = some (.getfield 471) := by decide +kernel
theorem cd_174_442 : mt_cd 174 442 = some (.lcmp) := by decide +kernel
theorem cd_174_443 : mt_cd 174 443 = some (.ifCond .le 5) := by decide +kernel
theorem cd_174_446 : mt_cd 174 446 = some (.iconst 3) := by decide +kernel
theorem cd_174_447 : mt_cd 174 447 = some (.ireturn) := by decide +kernel
theorem cd_174_448 : mt_cd 174 448 = some (.aload_n 0) := by decide +kernel
theorem cd_174_449 : mt_cd 174 449 = some (.getfield 445) := by decide +kernel
theorem cd_174_452 : mt_cd 174 452 = some (.aload_n 0) := by decide +kernel
theorem cd_174_453 : mt_cd 174 453 = some (.getfield 98) := by decide +kernel
theorem cd_174_456 : mt_cd 174 456 = some (.iload_n 1) := by decide +kernel
theorem cd_174_457 : mt_cd 174 457 = some (.iaload) := by decide +kernel
theorem cd_174_458 : mt_cd 174 458 = some (.putfield 496) := by decide +kernel
theorem cd_174_461 : mt_cd 174 461 = some (.goto 137) := by decide +kernel
theorem cd_174_464 : mt_cd 174 464 = some (.aload_n 0) := by decide +kernel
theorem cd_174_465 : mt_cd 174 465 = some (.aload_n 0) := by decide +kernel
theorem cd_174_466 : mt_cd 174 466 = some (.getfield 89) := by decide +kernel
theorem cd_174_469 : mt_cd 174 469 = some (.iload_n 1) := by decide +kernel
theorem cd_174_470 : mt_cd 174 470 = some (.iaload) := by decide +kernel
theorem cd_174_471 : mt_cd 174 471 = some (.invokevirtual 451) := by decide +kernel
theorem cd_174_474 : mt_cd 174 474 = some (.lstore_n 2) := by decide +kernel
theorem cd_174_475 : mt_cd 174 475 = some (.aload_n 0) := by decide +kernel
theorem cd_174_476 : mt_cd 174 476 = some (.getfield 441) := by decide +kernel
theorem cd_174_479 : mt_cd 174 479 = some (.ifCond .eq 6) := by decide +kernel
theorem cd_174_482 : mt_cd 174 482 = some (.bipush 6) := by decide +kernel
theorem cd_174_484 : mt_cd 174 484 = some (.ireturn) := by decide +kernel
theorem cd_174_485 : mt_cd 174 485 = some (.aload_n 0) := by decide +kernel
theorem cd_174_486 : mt_cd 174 486 = some (.getfield 445) := by decide +kernel
theorem cd_174_489 : mt_cd 174 489 = some (.getfield 465) := by decide +kernel
theorem cd_174_492 : mt_cd 174 492 = some (.aload_n 0) := by decide +kernel
theorem cd_174_493 : mt_cd 174 493 = some (.getfield 80) := by decide +kernel
theorem cd_174_496 : mt_cd 174 496 = some (.iload_n 1) := by decide +kernel
theorem cd_174_497 : mt_cd 174 497 = some (.iaload) := by decide +kernel
theorem cd_174_498 : mt_cd 174 498 = some (.baload) := by decide +kernel
theorem cd_174_499 : mt_cd 174 499 = some (.ifCond .eq 9) := by decide +kernel
theorem cd_174_502 : mt_cd 174 502 = some (.aload_n 0) := by decide +kernel
theorem cd_174_503 : mt_cd 174 503 = some (.iconst 4) := by decide +kernel
theorem cd_174_504 : mt_cd 174 504 = some (.iload_n 1) := by decide +kernel
theorem cd_174_505 : mt_cd 174 505 = some (.invokevirtual 502) := by decide +kernel
theorem cd_174_508 : mt_cd 174 508 = some (.aload_n 0) := by decide +kernel
theorem cd_174_509 : mt_cd 174 509 = some (.getfield 445) := by decide +kernel
theorem cd_174_512 : mt_cd 174 512 = some (.getfield 465) := by decide +kernel
theorem cd_174_515 : mt_cd 174 515 = some (.aload_n 0) := by decide +kernel
theorem cd_174_516 : mt_cd 174 516 = some (.getfield 80) := by decide +kernel
theorem cd_174_519 : mt_cd 174 519 = some (.iload_n 1) := by decide +kernel
theorem cd_174_520 : mt_cd 174 520 = some (.iaload) := by decide +kernel
theorem cd_174_521 : mt_cd 174 521 = some (.iconst 1) := by decide +kernel
theorem cd_174_522 : mt_cd 174 522 = some (.bastore) := by decide +kernel
theorem cd_174_523 : mt_cd 174 523 = some (.aload_n 0) := by decide +kernel
theorem cd_174_524 : mt_cd 174 524 = some (.getfield 445) := by decide +kernel
theorem cd_174_527 : mt_cd 174 527 = some (.getfield 468) := by decide +kernel
theorem cd_174_530 : mt_cd 174 530 = some (.aload_n 0) := by decide +kernel
theorem cd_174_531 : mt_cd 174 531 = some (.getfield 80) := by decide +kernel
theorem cd_174_534 : mt_cd 174 534 = some (.iload_n 1) := by decide +kernel
theorem cd_174_535 : mt_cd 174 535 = some (.iaload) := by decide +kernel
theorem cd_174_536 : mt_cd 174 536 = some (.lload_n 2) := by decide +kernel
theorem cd_174_537 : mt_cd 174 537 = some (.lastore) := by decide +kernel
theorem cd_174_538 : mt_cd 174 538 = some (.aload_n 0) := by decide +kernel
theorem cd_174_539 : mt_cd 174 539 = some (.getfield 445) := by decide +kernel
theorem cd_174_542 : mt_cd 174 542 = some (.aload_n 0) := by decide +kernel
theorem cd_174_543 : mt_cd 174 543 = some (.getfield 98) := by decide +kernel
theorem cd_174_546 : mt_cd 174 546 = some (.iload_n 1) := by decide +kernel
theorem cd_174_547 : mt_cd 174 547 = some (.iaload) := by decide +kernel
theorem cd_174_548 : mt_cd 174 548 = some (.putfield 496) := by decide +kernel
theorem cd_174_551 : mt_cd 174 551 = some (.goto 47) := by decide +kernel
theorem cd_174_554 : mt_cd 174 554 = some (.aload_n 0) := by decide +kernel
theorem cd_174_555 : mt_cd 174 555 = some (.aload_n 0) := by decide +kernel
theorem cd_174_556 : mt_cd 174 556 = some (.getfield 89) := by decide +kernel
theorem cd_174_559 : mt_cd 174 559 = some (.iload_n 1) := by decide +kernel
theorem cd_174_560 : mt_cd 174 560 = some (.iaload) := by decide +kernel
theorem cd_174_561 : mt_cd 174 561 = some (.invokevirtual 477) := by decide +kernel
theorem cd_174_564 : mt_cd 174 564 = some (.istore_n 2) := by decide +kernel
theorem cd_174_565 : mt_cd 174 565 = some (.aload_n 0) := by decide +kernel
theorem cd_174_566 : mt_cd 174 566 = some (.getfield 441) := by decide +kernel
theorem cd_174_569 : mt_cd 174 569 = some (.ifCond .eq 6) := by decide +kernel
theorem cd_174_572 : mt_cd 174 572 = some (.bipush 6) := by decide +kernel
theorem cd_174_574 : mt_cd 174 574 = some (.ireturn) := by decide +kernel
theorem cd_174_575 : mt_cd 174 575 = some (.iload_n 2) := by decide +kernel
theorem cd_174_576 : mt_cd 174 576 = some (.ifCond .ne 9) := by decide +kernel
theorem cd_174_579 : mt_cd 174 579 = some (.aload_n 0) := by decide +kernel
theorem cd_174_580 : mt_cd 174 580 = some (.iconst 5) := by decide +kernel
theorem cd_174_581 : mt_cd 174 581 = some (.iload_n 1) := by decide +kernel
theorem cd_174_582 : mt_cd 174 582 = some (.invokevirtual 502) := by decide +kernel
theorem cd_174_585 : mt_cd 174 585 = some (.aload_n 0) := by decide +kernel
theorem cd_174_586 : mt_cd 174 586 = some (.getfield 445) := by decide +kernel
theorem cd_174_589 : mt_cd 174 589 = some (.aload_n 0) := by decide +kernel
theorem cd_174_590 : mt_cd 174 590 = some (.getfield 98) := by decide +kernel
theorem cd_174_593 : mt_cd 174 593 = some (.iload_n 1) := by decide +kernel
theorem cd_174_594 : mt_cd 174 594 = some (.iaload) := by decide +kernel
theorem cd_174_595 : mt_cd 174 595 = some (.putfield 496) := by decide +kernel
theorem cd_174_598 : mt_cd 174 598 = some (.aload_n 0) := by decide +kernel
theorem cd_174_599 : mt_cd 174 599 = some (.iconst 1) := by decide +kernel
theorem cd_174_600 : mt_cd 174 600 = some (.putfield 506) := by decide +kernel
theorem cd_174_603 : mt_cd 174 603 = some (.goto (-603)) := by decide +kernel
theorem b_174_0 {d : Nat} {Q : (Option Value ⊕ Nat) → mi_H → Prop} (n sl : Nat) (f : Nat → mi_C) {l1 : Nat} {o2 : Option Value} {o3 : Option Value} {o4 : Option Value} {o5 : Option Value} {o6 : Option Value} {o7 : Option Value} {o8 : Option Value} {fs9 : List Value} {x12 : Nat} {fs14 : List Value} {x17 : Int32} {fs19 : List Value} {fs24 : List Value} {x27 : Nat} (m29 i29 : Nat) (g29 : Nat → Int32) {t33 : Nat} (h10 : f l1 = .inr (12, fs9)) (h11 : l1 < n) (h13 : fs9[43]? = some (.ref x12)) (h15 : f x12 = .inr (13, fs14)) (h16 : x12 < n) (h18 : fs14[0]? = some (.int x17)) (h20 : f l1 = .inr (12, fs19)) (h21 : l1 < n) (h22 : 46 < fs19.length) (h23 : mi_fk .boolean (.int 0) = true) (h25 : (va_up f l1 (.inr (12, fs19.set 46 (.int 0)))) l1 = .inr (12, fs24)) (h26 : l1 < n) (h28 : fs24[12]? = some (.ref x27)) (h30 : (va_up f l1 (.inr (12, fs19.set 46 (.int 0)))) x27 = .inl (0, m29, .inl g29)) (h31 : x27 < n ∨ x27 = mi_SC) (h32 : mi_ix x17 m29 i29) (h34 : mi_ts 19 535 0 5 #[37, 108, 108, 347, 397, 445] ((g29 i29) : Int32).toInt = some t33) (h35 : mi_W d 174 t33 [some (.ref l1), some (.int x17), o3, o4, o5, o6, o7, o8] [] (n, sl, (va_up f l1 (.inr (12, fs19.set 46 (.int 0))))) Q) : mi_W d 174 0 [some (.ref l1), o2, o3, o4, o5, o6, o7, o8] [] (n, sl, f) Q := by
  refine w_aload_n cd_174_0 rfl ?_
  refine w_getfield cd_174_1 (show mt_f 12 445 = some (12, 43) by decide +kernel) h10 h11 h13 ?_
  refine w_getfield cd_174_4 (show mt_f 12 496 = some (13, 0) by decide +kernel) h15 h16 h18 ?_
  refine w_istore_n (ls' := [some (.ref l1), some (.int x17), o3, o4, o5, o6, o7, o8]) cd_174_7 (Nat.le_of_ble_eq_true rfl) rfl ?_
  refine w_aload_n cd_174_8 rfl ?_
  refine w_iconst (v := 0) cd_174_9 (by decide) ?_
  refine w_putfield (w := .int 0) cd_174_10 (show mt_f 12 441 = some (12, 46) by decide +kernel) h20 h21 ⟨h22, h23, Or.inl (by decide)⟩ ?_
  refine w_aload_n cd_174_13 rfl ?_
  refine w_getfield cd_174_14 (show mt_f 12 77 = some (12, 12) by decide +kernel) h25 h26 h28 ?_
  refine w_iload_n cd_174_17 rfl ?_
  refine w_iaload cd_174_18 h30 h31 h32 ?_
  exact w_tableswitch cd_174_19 h34 h35
theorem b_174_56 {d : Nat} {Q : (Option Value ⊕ Nat) → mi_H → Prop} (n sl : Nat) (f : Nat → mi_C) {l1 : Nat} {l2 : Int32} {o3 : Option Value} {o4 : Option Value} {o5 : Option Value} {o6 : Option Value} {o7 : Option Value} {o8 : Option Value} (h9 : mi_W d 174 58 [some (.ref l1), some (.int l2), some (.int 0), o4, o5, o6, o7, o8] [] (n, sl, f) Q) : mi_W d 174 56 [some (.ref l1), some (.int l2), o3, o4, o5, o6, o7, o8] [] (n, sl, f) Q := by
  refine w_iconst (v := 0) cd_174_56 (by decide) ?_
  refine w_istore_n (ls' := [some (.ref l1), some (.int l2), some (.int 0), o4, o5, o6, o7, o8]) cd_174_57 (Nat.le_of_ble_eq_true rfl) rfl ?_
  exact h9
theorem b_174_58 {d : Nat} {Q : (Option Value ⊕ Nat) → mi_H → Prop} (n sl : Nat) (f : Nat → mi_C) {l1 : Nat} {l2 : Int32} {l3 : Int32} {o4 : Option Value} {o5 : Option Value} {o6 : Option Value} {o7 : Option Value} {o8 : Option Value} (h9 : 32 ≤ l3 → mi_W d 174 84 [some (.ref l1), some (.int l2), some (.int l3), o4, o5, o6, o7, o8] [] (n, sl, f) Q) (h10 : ¬ (32 ≤ l3) → mi_W d 174 64 [some (.ref l1), some (.int l2), some (.int l3), o4, o5, o6, o7, o8] [] (n, sl, f) Q) : mi_W d 174 58 [some (.ref l1), some (.int l2), some (.int l3), o4, o5, o6, o7, o8] [] (n, sl, f) Q := by
  refine w_iload_n cd_174_58 rfl ?_
  refine w_bipush (v := 32) cd_174_59 (by decide) ?_
  exact w_if_icmpge cd_174_61 (by decide) h9 h10
theorem b_174_64 {d : Nat} {Q : (Option Value ⊕ Nat) → mi_H → Prop} (n sl : Nat) (f : Nat → mi_C) {l1 : Nat} {l2 : Int32} {l3 : Int32} {o4 : Option Value} {o5 : Option Value} {o6 : Option Value} {o7 : Option Value} {o8 : Option Value} {fs9 : List Value} {x12 : Nat} {fs14 : List Value} {x17 : Nat} (m19 i19 : Nat) (g19 : Nat → Int64) (h10 : f l1 = .inr (12, fs9)) (h11 : l1 < n) (h13 : fs9[43]? = some (.ref x12)) (h15 : f x12 = .inr (13, fs14)) (h16 : x12 < n) (h18 : fs14[2]? = some (.ref x17)) (h20 : f x17 = .inl (3, m19, .inr (.inl g19))) (h21 : x17 < n) (h22 : mi_ix l3 m19 i19) (h23 : ¬ (lg_cmp (g19 i19) 0) = (0 : Int32) → mi_W d 174 84 [some (.ref l1), some (.int l2), some (.int l3), o4, o5, o6, o7, o8] [] (n, sl, f) Q) (h24 : ¬ (¬ (lg_cmp (g19 i19) 0) = (0 : Int32)) → mi_W d 174 78 [some (.ref l1), some (.int l2), some (.int l3), o4, o5, o6, o7, o8] [] (n, sl, f) Q) : mi_W d 174 64 [some (.ref l1), some (.int l2), some (.int l3), o4, o5, o6, o7, o8] [] (n, sl, f) Q := by
  refine w_aload_n cd_174_64 rfl ?_
  refine w_getfield cd_174_65 (show mt_f 12 445 = some (12, 43) by decide +kernel) h10 h11 h13 ?_
  refine w_getfield cd_174_68 (show mt_f 12 448 = some (13, 2) by decide +kernel) h15 h16 h18 ?_
  refine w_iload_n cd_174_71 rfl ?_
  refine w_laload cd_174_72 h20 h21 h22 ?_
  refine w_lconst (lv := 0) cd_174_73 (by decide) ?_
  refine w_lcmp cd_174_74 ?_
  exact w_ifne cd_174_75 (by decide) h23 h24
theorem b_174_78 {d : Nat} {Q : (Option Value ⊕ Nat) → mi_H → Prop} (n sl : Nat) (f : Nat → mi_C) {l1 : Nat} {l2 : Int32} {l3 : Int32} {o4 : Option Value} {o5 : Option Value} {o6 : Option Value} {o7 : Option Value} {o8 : Option Value} (h9 : mi_W d 174 58 [some (.ref l1), some (.int l2), some (.int (l3 + 1)), o4, o5, o6, o7, o8] [] (n, sl, f) Q) : mi_W d 174 78 [some (.ref l1), some (.int l2), some (.int l3), o4, o5, o6, o7, o8] [] (n, sl, f) Q := by
  refine w_iinc (v := 1) (ls' := [some (.ref l1), some (.int l2), some (.int (l3 + 1)), o4, o5, o6, o7, o8]) cd_174_78 rfl (by decide) rfl ?_
  exact w_goto cd_174_81 (by decide) h9
theorem b_174_84 {d : Nat} {Q : (Option Value ⊕ Nat) → mi_H → Prop} (n sl : Nat) (f : Nat → mi_C) {l1 : Nat} {l2 : Int32} {l3 : Int32} {o4 : Option Value} {o5 : Option Value} {o6 : Option Value} {o7 : Option Value} {o8 : Option Value} (h9 : ¬ l3 = 32 → mi_W d 174 92 [some (.ref l1), some (.int l2), some (.int l3), o4, o5, o6, o7, o8] [] (n, sl, f) Q) (h10 : ¬ (¬ l3 = 32) → mi_W d 174 90 [some (.ref l1), some (.int l2), some (.int l3), o4, o5, o6, o7, o8] [] (n, sl, f) Q) : mi_W d 174 84 [some (.ref l1), some (.int l2), some (.int l3), o4, o5, o6, o7, o8] [] (n, sl, f) Q := by
  refine w_iload_n cd_174_84 rfl ?_
  refine w_bipush (v := 32) cd_174_85 (by decide) ?_
  exact w_if_icmpne cd_174_87 (by decide) h9 h10
theorem b_174_90 {d : Nat} {Q : (Option Value ⊕ Nat) → mi_H → Prop} (n sl : Nat) (f : Nat → mi_C) {l1 : Nat} {l2 : Int32} {l3 : Int32} {o4 : Option Value} {o5 : Option Value} {o6 : Option Value} {o7 : Option Value} {o8 : Option Value} (h9 : Q (.inl (some (.int 0))) (n, sl, f)) : mi_W d 174 90 [some (.ref l1), some (.int l2), some (.int l3), o4, o5, o6, o7, o8] [] (n, sl, f) Q := by
  refine w_iconst (v := 0) cd_174_90 (by decide) ?_
  exact w_ireturn_i cd_174_91 (by decide +kernel) h9
theorem b_174_92 {d : Nat} {Q : (Option Value ⊕ Nat) → mi_H → Prop} (n sl : Nat) (f : Nat → mi_C) {l1 : Nat} {l2 : Int32} {l3 : Int32} {o4 : Option Value} {o5 : Option Value} {o6 : Option Value} {o7 : Option Value} {o8 : Option Value} {fs9 : List Value} {x12 : Nat} {fs14 : List Value} {x17 : Nat} (m19 i19 : Nat) (g19 : Nat → Int64) {fs23 : List Value} (h10 : f l1 = .inr (12, fs9)) (h11 : l1 < n) (h13 : fs9[43]? = some (.ref x12)) (h15 : f x12 = .inr (13, fs14)) (h16 : x12 < n) (h18 : fs14[2]? = some (.ref x17)) (h20 : f x17 = .inl (3, m19, .inr (.inl g19))) (h21 : x17 < n) (h22 : mi_ix l3 m19 i19) (h24 : f l1 = .inr (12, fs23)) (h25 : l1 < n) (h26 : mi_W d 175 0 (mi_en 6 [.ref l1, .int (l3 / 4), .int (l3 / 4), .int (l3 - l3 / 4 * 4), .long (g19 i19)]) [] (n, sl, f) (mi_Kc d 174 111 [some (.ref l1), some (.int l2), some (.int l3), o4, o5, o6, o7, o8] [] Q)) : mi_W (d + 1) 174 92 [some (.ref l1), some (.int l2), some (.int l3), o4, o5, o6, o7, o8] [] (n, sl, f) Q := by
  refine w_aload_n cd_174_92 rfl ?_
  refine w_iload_n cd_174_93 rfl ?_
  refine w_iconst (v := 4) cd_174_94 (by decide) ?_
  refine w_idiv cd_174_95 (by decide) ?_
  refine w_iload_n cd_174_96 rfl ?_
  refine w_iconst (v := 4) cd_174_97 (by decide) ?_
  refine w_idiv cd_174_98 (by decide) ?_
  refine w_iload_n cd_174_99 rfl ?_
  refine w_iconst (v := 4) cd_174_100 (by decide) ?_
  refine w_irem cd_174_101 (by decide) ?_
  refine w_aload_n cd_174_102 rfl ?_
  refine w_getfield cd_174_103 (show mt_f 12 445 = some (12, 43) by decide +kernel) h10 h11 h13 ?_
  refine w_getfield cd_174_106 (show mt_f 12 448 = some (13, 2) by decide +kernel) h15 h16 h18 ?_
  refine w_iload_n cd_174_109 rfl ?_
  refine w_laload cd_174_110 h20 h21 h22 ?_
  exact w_invokevirtual cd_174_111 (show mt_m 12 499 = some (175, 0) by decide +kernel) (rest := []) rfl (as := [.ref l1, .int (l3 / 4), .int (l3 / 4), .int (l3 - l3 / 4 * 4), .long (g19 i19)]) rfl h24 (Or.inl h25) ⟨Nat.le_of_ble_eq_true rfl, Nat.le_of_ble_eq_true rfl, Nat.le_of_ble_eq_true rfl⟩ h26
theorem b_174_114 {d : Nat} {Q : (Option Value ⊕ Nat) → mi_H → Prop} (n sl : Nat) (f : Nat → mi_C) {l1 : Nat} {l2 : Int32} {l3 : Int32} {o4 : Option Value} {o5 : Option Value} {o6 : Option Value} {o7 : Option Value} {o8 : Option Value} {fs9 : List Value} {x12 : Nat} {fs14 : List Value} {x17 : Nat} (m19 i19 : Nat) (g19 : Nat → Int64) (h10 : f l1 = .inr (12, fs9)) (h11 : l1 < n) (h13 : fs9[43]? = some (.ref x12)) (h15 : f x12 = .inr (13, fs14)) (h16 : x12 < n) (h18 : fs14[2]? = some (.ref x17)) (h20 : f x17 = .inl (3, m19, .inr (.inl g19))) (h21 : x17 < n) (h22 : mi_ix l3 m19 i19) (h23 : mi_W d 174 598 [some (.ref l1), some (.int l2), some (.int l3), o4, o5, o6, o7, o8] [] (n, sl, (va_up f x17 (.inl (3, m19, .inr (.inl (vp_updL g19 i19 0)))))) Q) : mi_W d 174 114 [some (.ref l1), some (.int l2), some (.int l3), o4, o5, o6, o7, o8] [] (n, sl, f) Q := by
  refine w_aload_n cd_174_114 rfl ?_
  refine w_getfield cd_174_115 (show mt_f 12 445 = some (12, 43) by decide +kernel) h10 h11 h13 ?_
  refine w_getfield cd_174_118 (show mt_f 12 448 = some (13, 2) by decide +kernel) h15 h16 h18 ?_
  refine w_iload_n cd_174_121 rfl ?_
  refine w_lconst (lv := 0) cd_174_122 (by decide) ?_
  refine w_lastore cd_174_123 h20 h21 h22 ?_
  exact w_goto cd_174_124 (by decide) h23
theorem b_174_127 {d : Nat} {Q : (Option Value ⊕ Nat) → mi_H → Prop} (n sl : Nat) (f : Nat → mi_C) {l1 : Nat} {l2 : Int32} {o3 : Option Value} {o4 : Option Value} {o5 : Option Value} {o6 : Option Value} {o7 : Option Value} {o8 : Option Value} {fs9 : List Value} {x12 : Nat} (m14 i14 : Nat) (g14 : Nat → Int32) {fs18 : List Value} (h10 : f l1 = .inr (12, fs9)) (h11 : l1 < n) (h13 : fs9[16]? = some (.ref x12)) (h15 : f x12 = .inl (0, m14, .inl g14)) (h16 : x12 < n ∨ x12 = mi_SC) (h17 : mi_ix l2 m14 i14) (h19 : f l1 = .inr (12, fs18)) (h20 : l1 < n) (h21 : mi_W d 176 0 (mi_en 2 [.ref l1, .int (g14 i14)]) [] (n, sl, f) (mi_Kc d 174 134 [some (.ref l1), some (.int l2), o3, o4, o5, o6, o7, o8] [] Q)) : mi_W (d + 1) 174 127 [some (.ref l1), some (.int l2), o3, o4, o5, o6, o7, o8] [] (n, sl, f) Q := by
  refine w_aload_n cd_174_127 rfl ?_
  refine w_aload_n cd_174_128 rfl ?_
  refine w_getfield cd_174_129 (show mt_f 12 89 = some (12, 16) by decide +kernel) h10 h11 h13 ?_
  refine w_iload_n cd_174_132 rfl ?_
  refine w_iaload cd_174_133 h15 h16 h17 ?_
  exact w_invokevirtual cd_174_134 (show mt_m 12 451 = some (176, 0) by decide +kernel) (rest := []) rfl (as := [.ref l1, .int (g14 i14)]) rfl h19 (Or.inl h20) ⟨Nat.le_of_ble_eq_true rfl, Nat.le_of_ble_eq_true rfl, Nat.le_of_ble_eq_true rfl⟩ h21
theorem b_174_137 {d : Nat} {Q : (Option Value ⊕ Nat) → mi_H → Prop} (n sl : Nat) (f : Nat → mi_C) {l1 : Nat} {l2 : Int32} {o3 : Option Value} {o4 : Option Value} {o5 : Option Value} {o6 : Option Value} {o7 : Option Value} {o8 : Option Value} {s9 : Int64} {fs10 : List Value} {x13 : Int32} (h11 : f l1 = .inr (12, fs10)) (h12 : l1 < n) (h14 : fs10[46]? = some (.int x13)) (h15 : x13 = (0 : Int32) → mi_W d 174 148 [some (.ref l1), some (.int l2), some (.long s9), none, o5, o6, o7, o8] [] (n, sl, f) Q) (h16 : ¬ (x13 = (0 : Int32)) → mi_W d 174 145 [some (.ref l1), some (.int l2), some (.long s9), none, o5, o6, o7, o8] [] (n, sl, f) Q) : mi_W d 174 137 [some (.ref l1), some (.int l2), o3, o4, o5, o6, o7, o8] [.long s9] (n, sl, f) Q := by
  refine w_lstore_n (ls' := [some (.ref l1), some (.int l2), some (.long s9), none, o5, o6, o7, o8]) cd_174_137 (Nat.le_of_ble_eq_true rfl) rfl ?_
  refine w_aload_n cd_174_138 rfl ?_
  refine w_getfield cd_174_139 (show mt_f 12 441 = some (12, 46) by decide +kernel) h11 h12 h14 ?_
  exact w_ifeq cd_174_142 (by decide) h15 h16
theorem b_174_145 {d : Nat} {Q : (Option Value ⊕ Nat) → mi_H → Prop} (n sl : Nat) (f : Nat → mi_C) {l1 : Nat} {l2 : Int32} {l3 : Int64} {o4 : Option Value} {o5 : Option Value} {o6 : Option Value} {o7 : Option Value} (h8 : Q (.inl (some (.int 6))) (n, sl, f)) : mi_W d 174 145 [some (.ref l1), some (.int l2), some (.long l3), none, o4, o5, o6, o7] [] (n, sl, f) Q := by
  refine w_bipush (v := 6) cd_174_145 (by decide) ?_
  exact w_ireturn_i cd_174_147 (by decide +kernel) h8
theorem b_174_148 {d : Nat} {Q : (Option Value ⊕ Nat) → mi_H → Prop} (n sl : Nat) (f : Nat → mi_C) {l1 : Nat} {l2 : Int32} {l3 : Int64} {o4 : Option Value} {o5 : Option Value} {o6 : Option Value} {o7 : Option Value} (h8 : (0 : Int32) < (lg_cmp l3 0) → mi_W d 174 163 [some (.ref l1), some (.int l2), some (.long l3), none, o4, o5, o6, o7] [] (n, sl, f) Q) (h9 : ¬ ((0 : Int32) < (lg_cmp l3 0)) → mi_W d 174 154 [some (.ref l1), some (.int l2), some (.long l3), none, o4, o5, o6, o7] [] (n, sl, f) Q) : mi_W d 174 148 [some (.ref l1), some (.int l2), some (.long l3), none, o4, o5, o6, o7] [] (n, sl, f) Q := by
  refine w_lload_n cd_174_148 rfl ?_
  refine w_lconst (lv := 0) cd_174_149 (by decide) ?_
  refine w_lcmp cd_174_150 ?_
  exact w_ifgt cd_174_151 (by decide) h8 h9
theorem b_174_154 {d : Nat} {Q : (Option Value ⊕ Nat) → mi_H → Prop} (n sl : Nat) (f : Nat → mi_C) {l1 : Nat} {l2 : Int32} {l3 : Int64} {o4 : Option Value} {o5 : Option Value} {o6 : Option Value} {o7 : Option Value} {fs8 : List Value} (h9 : f l1 = .inr (12, fs8)) (h10 : l1 < n) (h11 : mi_W d 181 0 (mi_en 3 [.ref l1, .int 2, .int l2]) [] (n, sl, f) (mi_Kc d 174 157 [some (.ref l1), some (.int l2), some (.long l3), none, o4, o5, o6, o7] [] Q)) : mi_W (d + 1) 174 154 [some (.ref l1), some (.int l2), some (.long l3), none, o4, o5, o6, o7] [] (n, sl, f) Q := by
  refine w_aload_n cd_174_154 rfl ?_
  refine w_iconst (v := 2) cd_174_155 (by decide) ?_
  refine w_iload_n cd_174_156 rfl ?_
  exact w_invokevirtual cd_174_157 (show mt_m 12 502 = some (181, 0) by decide +kernel) (rest := []) rfl (as := [.ref l1, .int 2, .int l2]) rfl h9 (Or.inl h10) ⟨Nat.le_of_ble_eq_true rfl, Nat.le_of_ble_eq_true rfl, Nat.le_of_ble_eq_true rfl⟩ h11
theorem b_174_160 {d : Nat} {Q : (Option Value ⊕ Nat) → mi_H → Prop} (n sl : Nat) (f : Nat → mi_C) {l1 : Nat} {l2 : Int32} {l3 : Int64} {o4 : Option Value} {o5 : Option Value} {o6 : Option Value} {o7 : Option Value} (h8 : mi_W d 174 350 [some (.ref l1), some (.int l2), some (.long l3), none, o4, o5, o6, o7] [] (n, sl, f) Q) : mi_W d 174 160 [some (.ref l1), some (.int l2), some (.long l3), none, o4, o5, o6, o7] [] (n, sl, f) Q := by
  exact w_goto cd_174_160 (by decide) h8
theorem b_174_163 {d : Nat} {Q : (Option Value ⊕ Nat) → mi_H → Prop} (n sl : Nat) (f : Nat → mi_C) {l1 : Nat} {l2 : Int32} {l3 : Int64} {o4 : Option Value} {o5 : Option Value} {o6 : Option Value} {o7 : Option Value} {fs8 : List Value} {x11 : Nat} (m13 i13 : Nat) (g13 : Nat → Int32) {fs17 : List Value} {x20 : Nat} (m22 i22 : Nat) (g22 : Nat → Int32) {fs26 : List Value} {x29 : Nat} {fs31 : List Value} {x34 : Nat} (m36 i36 : Nat) (g36 : Nat → Int64) (h9 : f l1 = .inr (12, fs8)) (h10 : l1 < n) (h12 : fs8[13]? = some (.ref x11)) (h14 : f x11 = .inl (0, m13, .inl g13)) (h15 : x11 < n ∨ x11 = mi_SC) (h16 : mi_ix l2 m13 i13) (h18 : f l1 = .inr (12, fs17)) (h19 : l1 < n) (h21 : fs17[15]? = some (.ref x20)) (h23 : f x20 = .inl (0, m22, .inl g22)) (h24 : x20 < n ∨ x20 = mi_SC) (h25 : mi_ix l2 m22 i22) (h27 : f l1 = .inr (12, fs26)) (h28 : l1 < n) (h30 : fs26[43]? = some (.ref x29)) (h32 : f x29 = .inr (13, fs31)) (h33 : x29 < n) (h35 : fs31[2]? = some (.ref x34)) (h37 : f x34 = .inl (3, m36, .inr (.inl g36))) (h38 : x34 < n) (h39 : mi_ix ((4 * (g13 i13)) + (g22 i22)) m36 i36) (h40 : (0 : Int32) ≤ (lg_cmp l3 (g36 i36)) → mi_W d 174 199 [some (.ref l1), some (.int l2), some (.long l3), none, some (.int ((4 * (g13 i13)) + (g22 i22))), o5, o6, o7] [] (n, sl, f) Q) (h41 : ¬ ((0 : Int32) ≤ (lg_cmp l3 (g36 i36))) → mi_W d 174 195 [some (.ref l1), some (.int l2), some (.long l3), none, some (.int ((4 * (g13 i13)) + (g22 i22))), o5, o6, o7] [] (n, sl, f) Q) : mi_W d 174 163 [some (.ref l1), some (.int l2), some (.long l3), none, o4, o5, o6, o7] [] (n, sl, f) Q := by
  refine w_iconst (v := 4) cd_174_163 (by decide) ?_
  refine w_aload_n cd_174_164 rfl ?_
  refine w_getfield cd_174_165 (show mt_f 12 80 = some (12, 13) by decide +kernel) h9 h10 h12 ?_
  refine w_iload_n cd_174_168 rfl ?_
  refine w_iaload cd_174_169 h14 h15 h16 ?_
  refine w_imul cd_174_170 ?_
  refine w_aload_n cd_174_171 rfl ?_
  refine w_getfield cd_174_172 (show mt_f 12 86 = some (12, 15) by decide +kernel) h18 h19 h21 ?_
  refine w_iload_n cd_174_175 rfl ?_
  refine w_iaload cd_174_176 h23 h24 h25 ?_
  refine w_iadd cd_174_177 ?_
  refine w_istore (ls' := [some (.ref l1), some (.int l2), some (.long l3), none, some (.int ((4 * (g13 i13)) + (g22 i22))), o5, o6, o7]) cd_174_178 (Nat.le_of_ble_eq_true rfl) rfl ?_
  refine w_lload_n cd_174_180 rfl ?_
  refine w_aload_n cd_174_181 rfl ?_
  refine w_getfield cd_174_182 (show mt_f 12 445 = some (12, 43) by decide +kernel) h27 h28 h30 ?_
  refine w_getfield cd_174_185 (show mt_f 12 448 = some (13, 2) by decide +kernel) h32 h33 h35 ?_
  refine w_iload cd_174_188 rfl ?_
  refine w_laload cd_174_190 h37 h38 h39 ?_
  refine w_lcmp cd_174_191 ?_
  exact w_ifge cd_174_192 (by decide) h40 h41
theorem b_174_195 {d : Nat} {Q : (Option Value ⊕ Nat) → mi_H → Prop} (n sl : Nat) (f : Nat → mi_C) {l1 : Nat} {l2 : Int32} {l3 : Int64} {l4 : Int32} {o5 : Option Value} {o6 : Option Value} {o7 : Option Value} (h8 : mi_W d 174 209 [some (.ref l1), some (.int l2), some (.long l3), none, some (.int l4), o5, o6, o7] [.long l3] (n, sl, f) Q) : mi_W d 174 195 [some (.ref l1), some (.int l2), some (.long l3), none, some (.int l4), o5, o6, o7] [] (n, sl, f) Q := by
  refine w_lload_n cd_174_195 rfl ?_
  exact w_goto cd_174_196 (by decide) h8
theorem b_174_199 {d : Nat} {Q : (Option Value ⊕ Nat) → mi_H → Prop} (n sl : Nat) (f : Nat → mi_C) {l1 : Nat} {l2 : Int32} {l3 : Int64} {l4 : Int32} {o5 : Option Value} {o6 : Option Value} {o7 : Option Value} {fs8 : List Value} {x11 : Nat} {fs13 : List Value} {x16 : Nat} (m18 i18 : Nat) (g18 : Nat → Int64) (h9 : f l1 = .inr (12, fs8)) (h10 : l1 < n) (h12 : fs8[43]? = some (.ref x11)) (h14 : f x11 = .inr (13, fs13)) (h15 : x11 < n) (h17 : fs13[2]? = some (.ref x16)) (h19 : f x16 = .inl (3, m18, .inr (.inl g18))) (h20 : x16 < n) (h21 : mi_ix l4 m18 i18) (h22 : mi_W d 174 209 [some (.ref l1), some (.int l2), some (.long l3), none, some (.int l4), o5, o6, o7] [.long (g18 i18)] (n, sl, f) Q) : mi_W d 174 199 [some (.ref l1), some (.int l2), some (.long l3), none, some (.int l4), o5, o6, o7] [] (n, sl, f) Q := by
  refine w_aload_n cd_174_199 rfl ?_
  refine w_getfield cd_174_200 (show mt_f 12 445 = some (12, 43) by decide +kernel) h9 h10 h12 ?_
  refine w_getfield cd_174_203 (show mt_f 12 448 = some (13, 2) by decide +kernel) h14 h15 h17 ?_
  refine w_iload cd_174_206 rfl ?_
  refine w_laload cd_174_208 h19 h20 h21 ?_
  exact h22
theorem b_174_209 {d : Nat} {Q : (Option Value ⊕ Nat) → mi_H → Prop} (n sl : Nat) (f : Nat → mi_C) {l1 : Nat} {l2 : Int32} {l3 : Int64} {l4 : Int32} {o5 : Option Value} {o6 : Option Value} {o7 : Option Value} {s8 : Int64} (h9 : (0 : Int32) ≤ (lg_cmp s8 l3) → mi_W d 174 224 [some (.ref l1), some (.int l2), some (.long l3), none, some (.int l4), some (.long s8), none, o7] [] (n, sl, f) Q) (h10 : ¬ ((0 : Int32) ≤ (lg_cmp s8 l3)) → mi_W d 174 218 [some (.ref l1), some (.int l2), some (.long l3), none, some (.int l4), some (.long s8), none, o7] [] (n, sl, f) Q) : mi_W d 174 209 [some (.ref l1), some (.int l2), some (.long l3), none, some (.int l4), o5, o6, o7] [.long s8] (n, sl, f) Q := by
  refine w_lstore (ls' := [some (.ref l1), some (.int l2), some (.long l3), none, some (.int l4), some (.long s8), none, o7]) cd_174_209 (Nat.le_of_ble_eq_true rfl) rfl ?_
  refine w_lload cd_174_211 rfl ?_
  refine w_lload_n cd_174_213 rfl ?_
  refine w_lcmp cd_174_214 ?_
  exact w_ifge cd_174_215 (by decide) h9 h10
theorem b_174_218 {d : Nat} {Q : (Option Value ⊕ Nat) → mi_H → Prop} (n sl : Nat) (f : Nat → mi_C) {l1 : Nat} {l2 : Int32} {l3 : Int64} {l4 : Int32} {l5 : Int64} {o6 : Option Value} {fs7 : List Value} (h8 : f l1 = .inr (12, fs7)) (h9 : l1 < n) (h10 : mi_W d 181 0 (mi_en 3 [.ref l1, .int 3, .int l2]) [] (n, sl, f) (mi_Kc d 174 221 [some (.ref l1), some (.int l2), some (.long l3), none, some (.int l4), some (.long l5), none, o6] [] Q)) : mi_W (d + 1) 174 218 [some (.ref l1), some (.int l2), some (.long l3), none, some (.int l4), some (.long l5), none, o6] [] (n, sl, f) Q := by
  refine w_aload_n cd_174_218 rfl ?_
  refine w_iconst (v := 3) cd_174_219 (by decide) ?_
  refine w_iload_n cd_174_220 rfl ?_
  exact w_invokevirtual cd_174_221 (show mt_m 12 502 = some (181, 0) by decide +kernel) (rest := []) rfl (as := [.ref l1, .int 3, .int l2]) rfl h8 (Or.inl h9) ⟨Nat.le_of_ble_eq_true rfl, Nat.le_of_ble_eq_true rfl, Nat.le_of_ble_eq_true rfl⟩ h10
theorem b_174_224 {d : Nat} {Q : (Option Value ⊕ Nat) → mi_H → Prop} (n sl : Nat) (f : Nat → mi_C) {l1 : Nat} {l2 : Int32} {l3 : Int64} {l4 : Int32} {l5 : Int64} {o6 : Option Value} {fs7 : List Value} {x10 : Nat} {fs12 : List Value} {x15 : Nat} (m17 i17 : Nat) (g17 : Nat → Int64) (m21 i21 : Nat) (g21 : Nat → Int64) {fs25 : List Value} {x28 : Nat} (m30 i30 : Nat) (g30 : Nat → Int32) (h8 : f l1 = .inr (12, fs7)) (h9 : l1 < n) (h11 : fs7[43]? = some (.ref x10)) (h13 : f x10 = .inr (13, fs12)) (h14 : x10 < n) (h16 : fs12[2]? = some (.ref x15)) (h18 : f x15 = .inl (3, m17, .inr (.inl g17))) (h19 : x15 < n) (h20 : mi_ix l4 m17 i17) (h22 : f x15 = .inl (3, m21, .inr (.inl g21))) (h23 : x15 < n) (h24 : mi_ix l4 m21 i21) (h26 : (va_up f x15 (.inl (3, m21, .inr (.inl (vp_updL g21 i21 ((g17 i17) - l5)))))) l1 = .inr (12, fs25)) (h27 : l1 < n) (h29 : fs25[12]? = some (.ref x28)) (h31 : (va_up f x15 (.inl (3, m21, .inr (.inl (vp_updL g21 i21 ((g17 i17) - l5)))))) x28 = .inl (0, m30, .inl g30)) (h32 : x28 < n ∨ x28 = mi_SC) (h33 : mi_ix l2 m30 i30) (h34 : ¬ (g30 i30) = 1 → mi_W d 174 283 [some (.ref l1), some (.int l2), some (.long l3), none, some (.int l4), some (.long l5), none, o6] [] (n, sl, (va_up f x15 (.inl (3, m21, .inr (.inl (vp_updL g21 i21 ((g17 i17) - l5))))))) Q) (h35 : ¬ (¬ (g30 i30) = 1) → mi_W d 174 249 [some (.ref l1), some (.int l2), some (.long l3), none, some (.int l4), some (.long l5), none, o6] [] (n, sl, (va_up f x15 (.inl (3, m21, .inr (.inl (vp_updL g21 i21 ((g17 i17) - l5))))))) Q) : mi_W d 174 224 [some (.ref l1), some (.int l2), some (.long l3), none, some (.int l4), some (.long l5), none, o6] [] (n, sl, f) Q := by
  refine w_aload_n cd_174_224 rfl ?_
  refine w_getfield cd_174_225 (show mt_f 12 445 = some (12, 43) by decide +kernel) h8 h9 h11 ?_
  refine w_getfield cd_174_228 (show mt_f 12 448 = some (13, 2) by decide +kernel) h13 h14 h16 ?_
  refine w_iload cd_174_231 rfl ?_
  refine w_dup2_ir cd_174_233 ?_
  refine w_laload cd_174_234 h18 h19 h20 ?_
  refine w_lload cd_174_235 rfl ?_
  refine w_lsub cd_174_237 ?_
  refine w_lastore cd_174_238 h22 h23 h24 ?_
  refine w_aload_n cd_174_239 rfl ?_
  refine w_getfield cd_174_240 (show mt_f 12 77 = some (12, 12) by decide +kernel) h26 h27 h29 ?_
  refine w_iload_n cd_174_243 rfl ?_
  refine w_iaload cd_174_244 h31 h32 h33 ?_
  refine w_iconst (v := 1) cd_174_245 (by decide) ?_
  exact w_if_icmpne cd_174_246 (by decide) h34 h35
theorem b_174_249 {d : Nat} {Q : (Option Value ⊕ Nat) → mi_H → Prop} (n sl : Nat) (f : Nat → mi_C) {l1 : Nat} {l2 : Int32} {l3 : Int64} {l4 : Int32} {l5 : Int64} {o6 : Option Value} (h7 : (lg_cmp l5 0) ≤ (0 : Int32) → mi_W d 174 350 [some (.ref l1), some (.int l2), some (.long l3), none, some (.int l4), some (.long l5), none, o6] [] (n, sl, f) Q) (h8 : ¬ ((lg_cmp l5 0) ≤ (0 : Int32)) → mi_W d 174 256 [some (.ref l1), some (.int l2), some (.long l3), none, some (.int l4), some (.long l5), none, o6] [] (n, sl, f) Q) : mi_W d 174 249 [some (.ref l1), some (.int l2), some (.long l3), none, some (.int l4), some (.long l5), none, o6] [] (n, sl, f) Q := by
  refine w_lload cd_174_249 rfl ?_
  refine w_lconst (lv := 0) cd_174_251 (by decide) ?_
  refine w_lcmp cd_174_252 ?_
  exact w_ifle cd_174_253 (by decide) h7 h8
theorem b_174_256 {d : Nat} {Q : (Option Value ⊕ Nat) → mi_H → Prop} (n sl : Nat) (f : Nat → mi_C) {l1 : Nat} {l2 : Int32} {l3 : Int64} {l4 : Int32} {l5 : Int64} {o6 : Option Value} {fs7 : List Value} {x10 : Nat} (m12 i12 : Nat) (g12 : Nat → Int32) {fs16 : List Value} {x19 : Nat} (m21 i21 : Nat) (g21 : Nat → Int32) {fs25 : List Value} {x28 : Nat} (m30 i30 : Nat) (g30 : Nat → Int32) {fs34 : List Value} (h8 : f l1 = .inr (12, fs7)) (h9 : l1 < n) (h11 : fs7[13]? = some (.ref x10)) (h13 : f x10 = .inl (0, m12, .inl g12)) (h14 : x10 < n ∨ x10 = mi_SC) (h15 : mi_ix l2 m12 i12) (h17 : f l1 = .inr (12, fs16)) (h18 : l1 < n) (h20 : fs16[14]? = some (.ref x19)) (h22 : f x19 = .inl (0, m21, .inl g21)) (h23 : x19 < n ∨ x19 = mi_SC) (h24 : mi_ix l2 m21 i21) (h26 : f l1 = .inr (12, fs25)) (h27 : l1 < n) (h29 : fs25[15]? = some (.ref x28)) (h31 : f x28 = .inl (0, m30, .inl g30)) (h32 : x28 < n ∨ x28 = mi_SC) (h33 : mi_ix l2 m30 i30) (h35 : f l1 = .inr (12, fs34)) (h36 : l1 < n) (h37 : mi_W d 175 0 (mi_en 6 [.ref l1, .int (g12 i12), .int (g21 i21), .int (g30 i30), .long l5]) [] (n, sl, f) (mi_Kc d 174 277 [some (.ref l1), some (.int l2), some (.long l3), none, some (.int l4), some (.long l5), none, o6] [] Q)) : mi_W (d + 1) 174 256 [some (.ref l1), some (.int l2), some (.long l3), none, some (.int l4), some (.long l5), none, o6] [] (n, sl, f) Q := by
  refine w_aload_n cd_174_256 rfl ?_
  refine w_aload_n cd_174_257 rfl ?_
  refine w_getfield cd_174_258 (show mt_f 12 80 = some (12, 13) by decide +kernel) h8 h9 h11 ?_
  refine w_iload_n cd_174_261 rfl ?_
  refine w_iaload cd_174_262 h13 h14 h15 ?_
  refine w_aload_n cd_174_263 rfl ?_
  refine w_getfield cd_174_264 (show mt_f 12 83 = some (12, 14) by decide +kernel) h17 h18 h20 ?_
  refine w_iload_n cd_174_267 rfl ?_
  refine w_iaload cd_174_268 h22 h23 h24 ?_
  refine w_aload_n cd_174_269 rfl ?_
  refine w_getfield cd_174_270 (show mt_f 12 86 = some (12, 15) by decide +kernel) h26 h27 h29 ?_
  refine w_iload_n cd_174_273 rfl ?_
  refine w_iaload cd_174_274 h31 h32 h33 ?_
  refine w_lload cd_174_275 rfl ?_
  exact w_invokevirtual cd_174_277 (show mt_m 12 499 = some (175, 0) by decide +kernel) (rest := []) rfl (as := [.ref l1, .int (g12 i12), .int (g21 i21), .int (g30 i30), .long l5]) rfl h35 (Or.inl h36) ⟨Nat.le_of_ble_eq_true rfl, Nat.le_of_ble_eq_true rfl, Nat.le_of_ble_eq_true rfl⟩ h37
theorem b_174_280 {d : Nat} {Q : (Option Value ⊕ Nat) → mi_H → Prop} (n sl : Nat) (f : Nat → mi_C) {l1 : Nat} {l2 : Int32} {l3 : Int64} {l4 : Int32} {l5 : Int64} {o6 : Option Value} (h7 : mi_W d 174 350 [some (.ref l1), some (.int l2), some (.long l3), none, some (.int l4), some (.long l5), none, o6] [] (n, sl, f) Q) : mi_W d 174 280 [some (.ref l1), some (.int l2), some (.long l3), none, some (.int l4), some (.long l5), none, o6] [] (n, sl, f) Q := by
  exact w_goto cd_174_280 (by decide) h7
theorem b_174_283 {d : Nat} {Q : (Option Value ⊕ Nat) → mi_H → Prop} (n sl : Nat) (f : Nat → mi_C) {l1 : Nat} {l2 : Int32} {l3 : Int64} {l4 : Int32} {l5 : Int64} {o6 : Option Value} {fs7 : List Value} {x10 : Nat} (m12 i12 : Nat) (g12 : Nat → Int32) {fs16 : List Value} {x19 : Nat} (m21 i21 : Nat) (g21 : Nat → Int32) {fs25 : List Value} {x28 : Nat} {fs30 : List Value} {x33 : Nat} (m35 i35 : Nat) (g35 : Nat → Int64) (m39 i39 : Nat) (g39 : Nat → Int64) {fs43 : List Value} {x46 : Nat} {fs48 : List Value} {x51 : Nat} (m53 i53 : Nat) (g53 : Nat → Int64) (h8 : f l1 = .inr (12, fs7)) (h9 : l1 < n) (h11 : fs7[14]? = some (.ref x10)) (h13 : f x10 = .inl (0, m12, .inl g12)) (h14 : x10 < n ∨ x10 = mi_SC) (h15 : mi_ix l2 m12 i12) (h17 : f l1 = .inr (12, fs16)) (h18 : l1 < n) (h20 : fs16[15]? = some (.ref x19)) (h22 : f x19 = .inl (0, m21, .inl g21)) (h23 : x19 < n ∨ x19 = mi_SC) (h24 : mi_ix l2 m21 i21) (h26 : f l1 = .inr (12, fs25)) (h27 : l1 < n) (h29 : fs25[43]? = some (.ref x28)) (h31 : f x28 = .inr (13, fs30)) (h32 : x28 < n) (h34 : fs30[2]? = some (.ref x33)) (h36 : f x33 = .inl (3, m35, .inr (.inl g35))) (h37 : x33 < n) (h38 : mi_ix ((4 * (g12 i12)) + (g21 i21)) m35 i35) (h40 : f x33 = .inl (3, m39, .inr (.inl g39))) (h41 : x33 < n) (h42 : mi_ix ((4 * (g12 i12)) + (g21 i21)) m39 i39) (h44 : (va_up f x33 (.inl (3, m39, .inr (.inl (vp_updL g39 i39 ((g35 i35) + l5)))))) l1 = .inr (12, fs43)) (h45 : l1 < n) (h47 : fs43[43]? = some (.ref x46)) (h49 : (va_up f x33 (.inl (3, m39, .inr (.inl (vp_updL g39 i39 ((g35 i35) + l5)))))) x46 = .inr (13, fs48)) (h50 : x46 < n) (h52 : fs48[2]? = some (.ref x51)) (h54 : (va_up f x33 (.inl (3, m39, .inr (.inl (vp_updL g39 i39 ((g35 i35) + l5)))))) x51 = .inl (3, m53, .inr (.inl g53))) (h55 : x51 < n) (h56 : mi_ix ((4 * (g12 i12)) + (g21 i21)) m53 i53) (h57 : (0 : Int32) < (lg_cmp (g53 i53) 4611686018427387904) → mi_W d 174 347 [some (.ref l1), some (.int l2), some (.long l3), none, some (.int l4), some (.long l5), none, some (.int ((4 * (g12 i12)) + (g21 i21)))] [] (n, sl, (va_up f x33 (.inl (3, m39, .inr (.inl (vp_updL g39 i39 ((g35 i35) + l5))))))) Q) (h58 : ¬ ((0 : Int32) < (lg_cmp (g53 i53) 4611686018427387904)) → mi_W d 174 332 [some (.ref l1), some (.int l2), some (.long l3), none, some (.int l4), some (.long l5), none, some (.int ((4 * (g12 i12)) + (g21 i21)))] [] (n, sl, (va_up f x33 (.inl (3, m39, .inr (.inl (vp_updL g39 i39 ((g35 i35) + l5))))))) Q) : mi_W d 174 283 [some (.ref l1), some (.int l2), some (.long l3), none, some (.int l4), some (.long l5), none, o6] [] (n, sl, f) Q := by
  refine w_iconst (v := 4) cd_174_283 (by decide) ?_
  refine w_aload_n cd_174_284 rfl ?_
  refine w_getfield cd_174_285 (show mt_f 12 83 = some (12, 14) by decide +kernel) h8 h9 h11 ?_
  refine w_iload_n cd_174_288 rfl ?_
  refine w_iaload cd_174_289 h13 h14 h15 ?_
  refine w_imul cd_174_290 ?_
  refine w_aload_n cd_174_291 rfl ?_
  refine w_getfield cd_174_292 (show mt_f 12 86 = some (12, 15) by decide +kernel) h17 h18 h20 ?_
  refine w_iload_n cd_174_295 rfl ?_
  refine w_iaload cd_174_296 h22 h23 h24 ?_
  refine w_iadd cd_174_297 ?_
  refine w_istore (ls' := [some (.ref l1), some (.int l2), some (.long l3), none, some (.int l4), some (.long l5), none, some (.int ((4 * (g12 i12)) + (g21 i21)))]) cd_174_298 (Nat.le_of_ble_eq_true rfl) rfl ?_
  refine w_aload_n cd_174_300 rfl ?_
  refine w_getfield cd_174_301 (show mt_f 12 445 = some (12, 43) by decide +kernel) h26 h27 h29 ?_
  refine w_getfield cd_174_304 (show mt_f 12 448 = some (13, 2) by decide +kernel) h31 h32 h34 ?_
  refine w_iload cd_174_307 rfl ?_
  refine w_dup2_ir cd_174_309 ?_
  refine w_laload cd_174_310 h36 h37 h38 ?_
  refine w_lload cd_174_311 rfl ?_
  refine w_ladd cd_174_313 ?_
  refine w_lastore cd_174_314 h40 h41 h42 ?_
  refine w_aload_n cd_174_315 rfl ?_
  refine w_getfield cd_174_316 (show mt_f 12 445 = some (12, 43) by decide +kernel) h44 h45 h47 ?_
  refine w_getfield cd_174_319 (show mt_f 12 448 = some (13, 2) by decide +kernel) h49 h50 h52 ?_
  refine w_iload cd_174_322 rfl ?_
  refine w_laload cd_174_324 h54 h55 h56 ?_
  refine w_ldc2_w (lv := 4611686018427387904) cd_174_325 (by decide +kernel) ?_
  refine w_lcmp cd_174_328 ?_
  exact w_ifgt cd_174_329 (by decide) h57 h58
theorem b_174_332 {d : Nat} {Q : (Option Value ⊕ Nat) → mi_H → Prop} (n sl : Nat) (f : Nat → mi_C) {l1 : Nat} {l2 : Int32} {l3 : Int64} {l4 : Int32} {l5 : Int64} {l6 : Int32} {fs7 : List Value} {x10 : Nat} {fs12 : List Value} {x15 : Nat} (m17 i17 : Nat) (g17 : Nat → Int64) (h8 : f l1 = .inr (12, fs7)) (h9 : l1 < n) (h11 : fs7[43]? = some (.ref x10)) (h13 : f x10 = .inr (13, fs12)) (h14 : x10 < n) (h16 : fs12[2]? = some (.ref x15)) (h18 : f x15 = .inl (3, m17, .inr (.inl g17))) (h19 : x15 < n) (h20 : mi_ix l6 m17 i17) (h21 : (0 : Int32) ≤ (lg_cmp (g17 i17) 0) → mi_W d 174 350 [some (.ref l1), some (.int l2), some (.long l3), none, some (.int l4), some (.long l5), none, some (.int l6)] [] (n, sl, f) Q) (h22 : ¬ ((0 : Int32) ≤ (lg_cmp (g17 i17) 0)) → mi_W d 174 347 [some (.ref l1), some (.int l2), some (.long l3), none, some (.int l4), some (.long l5), none, some (.int l6)] [] (n, sl, f) Q) : mi_W d 174 332 [some (.ref l1), some (.int l2), some (.long l3), none, some (.int l4), some (.long l5), none, some (.int l6)] [] (n, sl, f) Q := by
  refine w_aload_n cd_174_332 rfl ?_
  refine w_getfield cd_174_333 (show mt_f 12 445 = some (12, 43) by decide +kernel) h8 h9 h11 ?_
  refine w_getfield cd_174_336 (show mt_f 12 448 = some (13, 2) by decide +kernel) h13 h14 h16 ?_
  refine w_iload cd_174_339 rfl ?_
  refine w_laload cd_174_341 h18 h19 h20 ?_
  refine w_lconst (lv := 0) cd_174_342 (by decide) ?_
  refine w_lcmp cd_174_343 ?_
  exact w_ifge cd_174_344 (by decide) h21 h22
theorem b_174_347 {d : Nat} {Q : (Option Value ⊕ Nat) → mi_H → Prop} (n sl : Nat) (f : Nat → mi_C) {l1 : Nat} {l2 : Int32} {l3 : Int64} {l4 : Int32} {l5 : Int64} {l6 : Int32} (h7 : Q (.inl (some (.int 6))) (n, sl, f)) : mi_W d 174 347 [some (.ref l1), some (.int l2), some (.long l3), none, some (.int l4), some (.long l5), none, some (.int l6)] [] (n, sl, f) Q := by
  refine w_bipush (v := 6) cd_174_347 (by decide) ?_
  exact w_ireturn_i cd_174_349 (by decide +kernel) h7
theorem b_174_350 {d : Nat} {Q : (Option Value ⊕ Nat) → mi_H → Prop} (n sl : Nat) (f : Nat → mi_C) {l1 : Nat} {l2 : Int32} {l3 : Int64} {o4 : Option Value} {o5 : Option Value} {o6 : Option Value} {o7 : Option Value} {fs8 : List Value} {x11 : Nat} {fs13 : List Value} {x16 : Nat} (m18 i18 : Nat) (g18 : Nat → Int32) {fs22 : List Value} (h9 : f l1 = .inr (12, fs8)) (h10 : l1 < n) (h12 : fs8[43]? = some (.ref x11)) (h14 : f l1 = .inr (12, fs13)) (h15 : l1 < n) (h17 : fs13[19]? = some (.ref x16)) (h19 : f x16 = .inl (0, m18, .inl g18)) (h20 : x16 < n ∨ x16 = mi_SC) (h21 : mi_ix l2 m18 i18) (h23 : f x11 = .inr (13, fs22)) (h24 : x11 < n) (h25 : 0 < fs22.length) (h26 : mi_W d 174 598 [some (.ref l1), some (.int l2), some (.long l3), none, o4, o5, o6, o7] [] (n, sl, (va_up f x11 (.inr (13, fs22.set 0 (.int (g18 i18)))))) Q) : mi_W d 174 350 [some (.ref l1), some (.int l2), some (.long l3), none, o4, o5, o6, o7] [] (n, sl, f) Q := by
  refine w_aload_n cd_174_350 rfl ?_
  refine w_getfield cd_174_351 (show mt_f 12 445 = some (12, 43) by decide +kernel) h9 h10 h12 ?_
  refine w_aload_n cd_174_354 rfl ?_
  refine w_getfield cd_174_355 (show mt_f 12 98 = some (12, 19) by decide +kernel) h14 h15 h17 ?_
  refine w_iload_n cd_174_358 rfl ?_
  refine w_iaload cd_174_359 h19 h20 h21 ?_
  refine w_putfield (w := .int (g18 i18)) cd_174_360 (show mt_f 12 496 = some (13, 0) by decide +kernel) h23 h24 ⟨h25, rfl, Or.inl (by decide)⟩ ?_
  exact w_goto cd_174_363 (by decide) h26
theorem b_174_366 {d : Nat} {Q : (Option Value ⊕ Nat) → mi_H → Prop} (n sl : Nat) (f : Nat → mi_C) {l1 : Nat} {l2 : Int32} {o3 : Option Value} {o4 : Option Value} {o5 : Option Value} {o6 : Option Value} {o7 : Option Value} {o8 : Option Value} {fs9 : List Value} {x12 : Nat} (m14 i14 : Nat) (g14 : Nat → Int32) {fs18 : List Value} (h10 : f l1 = .inr (12, fs9)) (h11 : l1 < n) (h13 : fs9[16]? = some (.ref x12)) (h15 : f x12 = .inl (0, m14, .inl g14)) (h16 : x12 < n ∨ x12 = mi_SC) (h17 : mi_ix l2 m14 i14) (h19 : f l1 = .inr (12, fs18)) (h20 : l1 < n) (h21 : mi_W d 178 0 (mi_en 6 [.ref l1, .int (g14 i14)]) [] (n, sl, f) (mi_Kc d 174 373 [some (.ref l1), some (.int l2), o3, o4, o5, o6, o7, o8] [] Q)) : mi_W (d + 1) 174 366 [some (.ref l1), some (.int l2), o3, o4, o5, o6, o7, o8] [] (n, sl, f) Q := by
  refine w_aload_n cd_174_366 rfl ?_
  refine w_aload_n cd_174_367 rfl ?_
  refine w_getfield cd_174_368 (show mt_f 12 89 = some (12, 16) by decide +kernel) h10 h11 h13 ?_
  refine w_iload_n cd_174_371 rfl ?_
  refine w_iaload cd_174_372 h15 h16 h17 ?_
  exact w_invokevirtual cd_174_373 (show mt_m 12 477 = some (178, 0) by decide +kernel) (rest := []) rfl (as := [.ref l1, .int (g14 i14)]) rfl h19 (Or.inl h20) ⟨Nat.le_of_ble_eq_true rfl, Nat.le_of_ble_eq_true rfl, Nat.le_of_ble_eq_true rfl⟩ h21
theorem b_174_376 {d : Nat} {Q : (Option Value ⊕ Nat) → mi_H → Prop} (n sl : Nat) (f : Nat → mi_C) {l1 : Nat} {l2 : Int32} {o3 : Option Value} {o4 : Option Value} {o5 : Option Value} {o6 : Option Value} {o7 : Option Value} {o8 : Option Value} {s9 : Int32} {fs10 : List Value} {x13 : Int32} (h11 : f l1 = .inr (12, fs10)) (h12 : l1 < n) (h14 : fs10[46]? = some (.int x13)) (h15 : x13 = (0 : Int32) → mi_W d 174 387 [some (.ref l1), some (.int l2), some (.int s9), o4, o5, o6, o7, o8] [] (n, sl, f) Q) (h16 : ¬ (x13 = (0 : Int32)) → mi_W d 174 384 [some (.ref l1), some (.int l2), some (.int s9), o4, o5, o6, o7, o8] [] (n, sl, f) Q) : mi_W d 174 376 [some (.ref l1), some (.int l2), o3, o4, o5, o6, o7, o8] [.int s9] (n, sl, f) Q := by
  refine w_istore_n (ls' := [some (.ref l1), some (.int l2), some (.int s9), o4, o5, o6, o7, o8]) cd_174_376 (Nat.le_of_ble_eq_true rfl) rfl ?_
  refine w_aload_n cd_174_377 rfl ?_
  refine w_getfield cd_174_378 (show mt_f 12 441 = some (12, 46) by decide +kernel) h11 h12 h14 ?_
  exact w_ifeq cd_174_381 (by decide) h15 h16
theorem b_174_384 {d : Nat} {Q : (Option Value ⊕ Nat) → mi_H → Prop} (n sl : Nat) (f : Nat → mi_C) {l1 : Nat} {l2 : Int32} {l3 : Int32} {o4 : Option Value} {o5 : Option Value} {o6 : Option Value} {o7 : Option Value} {o8 : Option Value} (h9 : Q (.inl (some (.int 6))) (n, sl, f)) : mi_W d 174 384 [some (.ref l1), some (.int l2), some (.int l3), o4, o5, o6, o7, o8] [] (n, sl, f) Q := by
  refine w_bipush (v := 6) cd_174_384 (by decide) ?_
  exact w_ireturn_i cd_174_386 (by decide +kernel) h9
theorem b_174_387 {d : Nat} {Q : (Option Value ⊕ Nat) → mi_H → Prop} (n sl : Nat) (f : Nat → mi_C) {l1 : Nat} {l2 : Int32} {l3 : Int32} {o4 : Option Value} {o5 : Option Value} {o6 : Option Value} {o7 : Option Value} {o8 : Option Value} {fs9 : List Value} {x12 : Nat} (h10 : f l1 = .inr (12, fs9)) (h11 : l1 < n) (h13 : fs9[43]? = some (.ref x12)) (h14 : l3 = (0 : Int32) → mi_W d 174 404 [some (.ref l1), some (.int l2), some (.int l3), o4, o5, o6, o7, o8] [.ref x12] (n, sl, f) Q) (h15 : ¬ (l3 = (0 : Int32)) → mi_W d 174 395 [some (.ref l1), some (.int l2), some (.int l3), o4, o5, o6, o7, o8] [.ref x12] (n, sl, f) Q) : mi_W d 174 387 [some (.ref l1), some (.int l2), some (.int l3), o4, o5, o6, o7, o8] [] (n, sl, f) Q := by
  refine w_aload_n cd_174_387 rfl ?_
  refine w_getfield cd_174_388 (show mt_f 12 445 = some (12, 43) by decide +kernel) h10 h11 h13 ?_
  refine w_iload_n cd_174_391 rfl ?_
  exact w_ifeq cd_174_392 (by decide) h14 h15
theorem b_174_395 {d : Nat} {Q : (Option Value ⊕ Nat) → mi_H → Prop} (n sl : Nat) (f : Nat → mi_C) {l1 : Nat} {l2 : Int32} {l3 : Int32} {o4 : Option Value} {o5 : Option Value} {o6 : Option Value} {o7 : Option Value} {o8 : Option Value} {s9 : Nat} {fs10 : List Value} {x13 : Nat} (m15 i15 : Nat) (g15 : Nat → Int32) (h11 : f l1 = .inr (12, fs10)) (h12 : l1 < n) (h14 : fs10[13]? = some (.ref x13)) (h16 : f x13 = .inl (0, m15, .inl g15)) (h17 : x13 < n ∨ x13 = mi_SC) (h18 : mi_ix l2 m15 i15) (h19 : mi_W d 174 410 [some (.ref l1), some (.int l2), some (.int l3), o4, o5, o6, o7, o8] [.int (g15 i15), .ref s9] (n, sl, f) Q) : mi_W d 174 395 [some (.ref l1), some (.int l2), some (.int l3), o4, o5, o6, o7, o8] [.ref s9] (n, sl, f) Q := by
  refine w_aload_n cd_174_395 rfl ?_
  refine w_getfield cd_174_396 (show mt_f 12 80 = some (12, 13) by decide +kernel) h11 h12 h14 ?_
  refine w_iload_n cd_174_399 rfl ?_
  refine w_iaload cd_174_400 h16 h17 h18 ?_
  exact w_goto cd_174_401 (by decide) h19
theorem b_174_404 {d : Nat} {Q : (Option Value ⊕ Nat) → mi_H → Prop} (n sl : Nat) (f : Nat → mi_C) {l1 : Nat} {l2 : Int32} {l3 : Int32} {o4 : Option Value} {o5 : Option Value} {o6 : Option Value} {o7 : Option Value} {o8 : Option Value} {s9 : Nat} {fs10 : List Value} {x13 : Nat} (m15 i15 : Nat) (g15 : Nat → Int32) (h11 : f l1 = .inr (12, fs10)) (h12 : l1 < n) (h14 : fs10[14]? = some (.ref x13)) (h16 : f x13 = .inl (0, m15, .inl g15)) (h17 : x13 < n ∨ x13 = mi_SC) (h18 : mi_ix l2 m15 i15) (h19 : mi_W d 174 410 [some (.ref l1), some (.int l2), some (.int l3), o4, o5, o6, o7, o8] [.int (g15 i15), .ref s9] (n, sl, f) Q) : mi_W d 174 404 [some (.ref l1), some (.int l2), some (.int l3), o4, o5, o6, o7, o8] [.ref s9] (n, sl, f) Q := by
  refine w_aload_n cd_174_404 rfl ?_
  refine w_getfield cd_174_405 (show mt_f 12 83 = some (12, 14) by decide +kernel) h11 h12 h14 ?_
  refine w_iload_n cd_174_408 rfl ?_
  refine w_iaload cd_174_409 h16 h17 h18 ?_
  exact h19
theorem b_174_410 {d : Nat} {Q : (Option Value ⊕ Nat) → mi_H → Prop} (n sl : Nat) (f : Nat → mi_C) {l1 : Nat} {l2 : Int32} {l3 : Int32} {o4 : Option Value} {o5 : Option Value} {o6 : Option Value} {o7 : Option Value} {o8 : Option Value} {s9 : Int32} {s10 : Nat} {fs11 : List Value} (h12 : f s10 = .inr (13, fs11)) (h13 : s10 < n) (h14 : 0 < fs11.length) (h15 : mi_W d 174 598 [some (.ref l1), some (.int l2), some (.int l3), o4, o5, o6, o7, o8] [] (n, sl, (va_up f s10 (.inr (13, fs11.set 0 (.int s9))))) Q) : mi_W d 174 410 [some (.ref l1), some (.int l2), some (.int l3), o4, o5, o6, o7, o8] [.int s9, .ref s10] (n, sl, f) Q := by
  refine w_putfield (w := .int s9) cd_174_410 (show mt_f 12 496 = some (13, 0) by decide +kernel) h12 h13 ⟨h14, rfl, Or.inl (by decide)⟩ ?_
  exact w_goto cd_174_413 (by decide) h15
theorem b_174_416 {d : Nat} {Q : (Option Value ⊕ Nat) → mi_H → Prop} (n sl : Nat) (f : Nat → mi_C) {l1 : Nat} {l2 : Int32} {o3 : Option Value} {o4 : Option Value} {o5 : Option Value} {o6 : Option Value} {o7 : Option Value} {o8 : Option Value} {fs9 : List Value} {x12 : Int64} {fs14 : List Value} {x17 : Nat} (m19 i19 : Nat) (g19 : Nat → Int64) (h10 : f l1 = .inr (12, fs9)) (h11 : l1 < n) (h13 : fs9[45]? = some (.long x12)) (h15 : f l1 = .inr (12, fs14)) (h16 : l1 < n) (h18 : fs14[20]? = some (.ref x17)) (h20 : f x17 = .inl (3, m19, .inr (.inl g19))) (h21 : x17 < n) (h22 : mi_ix l2 m19 i19) (h23 : (0 : Int32) ≤ (lg_cmp x12 (g19 i19)) → mi_W d 174 432 [some (.ref l1), some (.int l2), o3, o4, o5, o6, o7, o8] [] (n, sl, f) Q) (h24 : ¬ ((0 : Int32) ≤ (lg_cmp x12 (g19 i19))) → mi_W d 174 430 [some (.ref l1), some (.int l2), o3, o4, o5, o6, o7, o8] [] (n, sl, f) Q) : mi_W d 174 416 [some (.ref l1), some (.int l2), o3, o4, o5, o6, o7, o8] [] (n, sl, f) Q := by
  refine w_aload_n cd_174_416 rfl ?_
  refine w_getfield cd_174_417 (show mt_f 12 474 = some (12, 45) by decide +kernel) h10 h11 h13 ?_
  refine w_aload_n cd_174_420 rfl ?_
  refine w_getfield cd_174_421 (show mt_f 12 101 = some (12, 20) by decide +kernel) h15 h16 h18 ?_
  refine w_iload_n cd_174_424 rfl ?_
  refine w_laload cd_174_425 h20 h21 h22 ?_
  refine w_lcmp cd_174_426 ?_
  exact w_ifge cd_174_427 (by decide) h23 h24
theorem b_174_430 {d : Nat} {Q : (Option Value ⊕ Nat) → mi_H → Prop} (n sl : Nat) (f : Nat → mi_C) {l1 : Nat} {l2 : Int32} {o3 : Option Value} {o4 : Option Value} {o5 : Option Value} {o6 : Option Value} {o7 : Option Value} {o8 : Option Value} (h9 : Q (.inl (some (.int 0))) (n, sl, f)) : mi_W d 174 430 [some (.ref l1), some (.int l2), o3, o4, o5, o6, o7, o8] [] (n, sl, f) Q := by
  refine w_iconst (v := 0) cd_174_430 (by decide) ?_
  exact w_ireturn_i cd_174_431 (by decide +kernel) h9
theorem b_174_432 {d : Nat} {Q : (Option Value ⊕ Nat) → mi_H → Prop} (n sl : Nat) (f : Nat → mi_C) {l1 : Nat} {l2 : Int32} {o3 : Option Value} {o4 : Option Value} {o5 : Option Value} {o6 : Option Value} {o7 : Option Value} {o8 : Option Value} {fs9 : List Value} {x12 : Nat} (m14 i14 : Nat) (g14 : Nat → Int64) {fs18 : List Value} {x21 : Int64} (h10 : f l1 = .inr (12, fs9)) (h11 : l1 < n) (h13 : fs9[20]? = some (.ref x12)) (h15 : f x12 = .inl (3, m14, .inr (.inl g14))) (h16 : x12 < n) (h17 : mi_ix l2 m14 i14) (h19 : f l1 = .inr (12, fs18)) (h20 : l1 < n) (h22 : fs18[44]? = some (.long x21)) (h23 : (lg_cmp (g14 i14) x21) ≤ (0 : Int32) → mi_W d 174 448 [some (.ref l1), some (.int l2), o3, o4, o5, o6, o7, o8] [] (n, sl, f) Q) (h24 : ¬ ((lg_cmp (g14 i14) x21) ≤ (0 : Int32)) → mi_W d 174 446 [some (.ref l1), some (.int l2), o3, o4, o5, o6, o7, o8] [] (n, sl, f) Q) : mi_W d 174 432 [some (.ref l1), some (.int l2), o3, o4, o5, o6, o7, o8] [] (n, sl, f) Q := by
  refine w_aload_n cd_174_432 rfl ?_
  refine w_getfield cd_174_433 (show mt_f 12 101 = some (12, 20) by decide +kernel) h10 h11 h13 ?_
  refine w_iload_n cd_174_436 rfl ?_
  refine w_laload cd_174_437 h15 h16 h17 ?_
  refine w_aload_n cd_174_438 rfl ?_
  refine w_getfield cd_174_439 (show mt_f 12 471 = some (12, 44) by decide +kernel) h19 h20 h22 ?_
  refine w_lcmp cd_174_442 ?_
  exact w_ifle cd_174_443 (by decide) h23 h24
theorem b_174_446 {d : Nat} {Q : (Option Value ⊕ Nat) → mi_H → Prop} (n sl : Nat) (f : Nat → mi_C) {l1 : Nat} {l2 : Int32} {o3 : Option Value} {o4 : Option Value} {o5 : Option Value} {o6 : Option Value} {o7 : Option Value} {o8 : Option Value} (h9 : Q (.inl (some (.int 3))) (n, sl, f)) : mi_W d 174 446 [some (.ref l1), some (.int l2), o3, o4, o5, o6, o7, o8] [] (n, sl, f) Q := by
  refine w_iconst (v := 3) cd_174_446 (by decide) ?_
  exact w_ireturn_i cd_174_447 (by decide +kernel) h9
theorem b_174_448 {d : Nat} {Q : (Option Value ⊕ Nat) → mi_H → Prop} (n sl : Nat) (f : Nat → mi_C) {l1 : Nat} {l2 : Int32} {o3 : Option Value} {o4 : Option Value} {o5 : Option Value} {o6 : Option Value} {o7 : Option Value} {o8 : Option Value} {fs9 : List Value} {x12 : Nat} {fs14 : List Value} {x17 : Nat} (m19 i19 : Nat) (g19 : Nat → Int32) {fs23 : List Value} (h10 : f l1 = .inr (12, fs9)) (h11 : l1 < n) (h13 : fs9[43]? = some (.ref x12)) (h15 : f l1 = .inr (12, fs14)) (h16 : l1 < n) (h18 : fs14[19]? = some (.ref x17)) (h20 : f x17 = .inl (0, m19, .inl g19)) (h21 : x17 < n ∨ x17 = mi_SC) (h22 : mi_ix l2 m19 i19) (h24 : f x12 = .inr (13, fs23)) (h25 : x12 < n) (h26 : 0 < fs23.length) (h27 : mi_W d 174 598 [some (.ref l1), some (.int l2), o3, o4, o5, o6, o7, o8] [] (n, sl, (va_up f x12 (.inr (13, fs23.set 0 (.int (g19 i19)))))) Q) : mi_W d 174 448 [some (.ref l1), some (.int l2), o3, o4, o5, o6, o7, o8] [] (n, sl, f) Q := by
  refine w_aload_n cd_174_448 rfl ?_
  refine w_getfield cd_174_449 (show mt_f 12 445 = some (12, 43) by decide +kernel) h10 h11 h13 ?_
  refine w_aload_n cd_174_452 rfl ?_
  refine w_getfield cd_174_453 (show mt_f 12 98 = some (12, 19) by decide +kernel) h15 h16 h18 ?_
  refine w_iload_n cd_174_456 rfl ?_
  refine w_iaload cd_174_457 h20 h21 h22 ?_
  refine w_putfield (w := .int (g19 i19)) cd_174_458 (show mt_f 12 496 = some (13, 0) by decide +kernel) h24 h25 ⟨h26, rfl, Or.inl (by decide)⟩ ?_
  exact w_goto cd_174_461 (by decide) h27
theorem b_174_464 {d : Nat} {Q : (Option Value ⊕ Nat) → mi_H → Prop} (n sl : Nat) (f : Nat → mi_C) {l1 : Nat} {l2 : Int32} {o3 : Option Value} {o4 : Option Value} {o5 : Option Value} {o6 : Option Value} {o7 : Option Value} {o8 : Option Value} {fs9 : List Value} {x12 : Nat} (m14 i14 : Nat) (g14 : Nat → Int32) {fs18 : List Value} (h10 : f l1 = .inr (12, fs9)) (h11 : l1 < n) (h13 : fs9[16]? = some (.ref x12)) (h15 : f x12 = .inl (0, m14, .inl g14)) (h16 : x12 < n ∨ x12 = mi_SC) (h17 : mi_ix l2 m14 i14) (h19 : f l1 = .inr (12, fs18)) (h20 : l1 < n) (h21 : mi_W d 176 0 (mi_en 2 [.ref l1, .int (g14 i14)]) [] (n, sl, f) (mi_Kc d 174 471 [some (.ref l1), some (.int l2), o3, o4, o5, o6, o7, o8] [] Q)) : mi_W (d + 1) 174 464 [some (.ref l1), some (.int l2), o3, o4, o5, o6, o7, o8] [] (n, sl, f) Q := by
  refine w_aload_n cd_174_464 rfl ?_
  refine w_aload_n cd_174_465 rfl ?_
  refine w_getfield cd_174_466 (show mt_f 12 89 = some (12, 16) by decide +kernel) h10 h11 h13 ?_
  refine w_iload_n cd_174_469 rfl ?_
  refine w_iaload cd_174_470 h15 h16 h17 ?_
  exact w_invokevirtual cd_174_471 (show mt_m 12 451 = some (176, 0) by decide +kernel) (rest := []) rfl (as := [.ref l1, .int (g14 i14)]) rfl h19 (Or.inl h20) ⟨Nat.le_of_ble_eq_true rfl, Nat.le_of_ble_eq_true rfl, Nat.le_of_ble_eq_true rfl⟩ h21
theorem b_174_474 {d : Nat} {Q : (Option Value ⊕ Nat) → mi_H → Prop} (n sl : Nat) (f : Nat → mi_C) {l1 : Nat} {l2 : Int32} {o3 : Option Value} {o4 : Option Value} {o5 : Option Value} {o6 : Option Value} {o7 : Option Value} {o8 : Option Value} {s9 : Int64} {fs10 : List Value} {x13 : Int32} (h11 : f l1 = .inr (12, fs10)) (h12 : l1 < n) (h14 : fs10[46]? = some (.int x13)) (h15 : x13 = (0 : Int32) → mi_W d 174 485 [some (.ref l1), some (.int l2), some (.long s9), none, o5, o6, o7, o8] [] (n, sl, f) Q) (h16 : ¬ (x13 = (0 : Int32)) → mi_W d 174 482 [some (.ref l1), some (.int l2), some (.long s9), none, o5, o6, o7, o8] [] (n, sl, f) Q) : mi_W d 174 474 [some (.ref l1), some (.int l2), o3, o4, o5, o6, o7, o8] [.long s9] (n, sl, f) Q := by
  refine w_lstore_n (ls' := [some (.ref l1), some (.int l2), some (.long s9), none, o5, o6, o7, o8]) cd_174_474 (Nat.le_of_ble_eq_true rfl) rfl ?_
  refine w_aload_n cd_174_475 rfl ?_
  refine w_getfield cd_174_476 (show mt_f 12 441 = some (12, 46) by decide +kernel) h11 h12 h14 ?_
  exact w_ifeq cd_174_479 (by decide) h15 h16
theorem b_174_482 {d : Nat} {Q : (Option Value ⊕ Nat) → mi_H → Prop} (n sl : Nat) (f : Nat → mi_C) {l1 : Nat} {l2 : Int32} {l3 : Int64} {o4 : Option Value} {o5 : Option Value} {o6 : Option Value} {o7 : Option Value} (h8 : Q (.inl (some (.int 6))) (n, sl, f)) : mi_W d 174 482 [some (.ref l1), some (.int l2), some (.long l3), none, o4, o5, o6, o7] [] (n, sl, f) Q := by
  refine w_bipush (v := 6) cd_174_482 (by decide) ?_
  exact w_ireturn_i cd_174_484 (by decide +kernel) h8
theorem b_174_485 {d : Nat} {Q : (Option Value ⊕ Nat) → mi_H → Prop} (n sl : Nat) (f : Nat → mi_C) {l1 : Nat} {l2 : Int32} {l3 : Int64} {o4 : Option Value} {o5 : Option Value} {o6 : Option Value} {o7 : Option Value} {fs8 : List Value} {x11 : Nat} {fs13 : List Value} {x16 : Nat} {fs18 : List Value} {x21 : Nat} (m23 i23 : Nat) (g23 : Nat → Int32) (m27 i27 : Nat) (g27 : Nat → Int32) (h9 : f l1 = .inr (12, fs8)) (h10 : l1 < n) (h12 : fs8[43]? = some (.ref x11)) (h14 : f x11 = .inr (13, fs13)) (h15 : x11 < n) (h17 : fs13[6]? = some (.ref x16)) (h19 : f l1 = .inr (12, fs18)) (h20 : l1 < n) (h22 : fs18[13]? = some (.ref x21)) (h24 : f x21 = .inl (0, m23, .inl g23)) (h25 : x21 < n ∨ x21 = mi_SC) (h26 : mi_ix l2 m23 i23) (h28 : f x16 = .inl (2, m27, .inl g27)) (h29 : x16 < n) (h30 : mi_ix (g23 i23) m27 i27) (h31 : (g27 i27) = (0 : Int32) → mi_W d 174 508 [some (.ref l1), some (.int l2), some (.long l3), none, o4, o5, o6, o7] [] (n, sl, f) Q) (h32 : ¬ ((g27 i27) = (0 : Int32)) → mi_W d 174 502 [some (.ref l1), some (.int l2), some (.long l3), none, o4, o5, o6, o7] [] (n, sl, f) Q) : mi_W d 174 485 [some (.ref l1), some (.int l2), some (.long l3), none, o4, o5, o6, o7] [] (n, sl, f) Q := by
  refine w_aload_n cd_174_485 rfl ?_
  refine w_getfield cd_174_486 (show mt_f 12 445 = some (12, 43) by decide +kernel) h9 h10 h12 ?_
  refine w_getfield cd_174_489 (show mt_f 12 465 = some (13, 6) by decide +kernel) h14 h15 h17 ?_
  refine w_aload_n cd_174_492 rfl ?_
  refine w_getfield cd_174_493 (show mt_f 12 80 = some (12, 13) by decide +kernel) h19 h20 h22 ?_
  refine w_iload_n cd_174_496 rfl ?_
  refine w_iaload cd_174_497 h24 h25 h26 ?_
  refine w_baload2 cd_174_498 h28 h29 h30 ?_
  exact w_ifeq cd_174_499 (by decide) h31 h32
theorem b_174_502 {d : Nat} {Q : (Option Value ⊕ Nat) → mi_H → Prop} (n sl : Nat) (f : Nat → mi_C) {l1 : Nat} {l2 : Int32} {l3 : Int64} {o4 : Option Value} {o5 : Option Value} {o6 : Option Value} {o7 : Option Value} {fs8 : List Value} (h9 : f l1 = .inr (12, fs8)) (h10 : l1 < n) (h11 : mi_W d 181 0 (mi_en 3 [.ref l1, .int 4, .int l2]) [] (n, sl, f) (mi_Kc d 174 505 [some (.ref l1), some (.int l2), some (.long l3), none, o4, o5, o6, o7] [] Q)) : mi_W (d + 1) 174 502 [some (.ref l1), some (.int l2), some (.long l3), none, o4, o5, o6, o7] [] (n, sl, f) Q := by
  refine w_aload_n cd_174_502 rfl ?_
  refine w_iconst (v := 4) cd_174_503 (by decide) ?_
  refine w_iload_n cd_174_504 rfl ?_
  exact w_invokevirtual cd_174_505 (show mt_m 12 502 = some (181, 0) by decide +kernel) (rest := []) rfl (as := [.ref l1, .int 4, .int l2]) rfl h9 (Or.inl h10) ⟨Nat.le_of_ble_eq_true rfl, Nat.le_of_ble_eq_true rfl, Nat.le_of_ble_eq_true rfl⟩ h11
theorem b_174_508 {d : Nat} {Q : (Option Value ⊕ Nat) → mi_H → Prop} (n sl : Nat) (f : Nat → mi_C) {l1 : Nat} {l2 : Int32} {l3 : Int64} {o4 : Option Value} {o5 : Option Value} {o6 : Option Value} {o7 : Option Value} {fs8 : List Value} {x11 : Nat} {fs13 : List Value} {x16 : Nat} {fs18 : List Value} {x21 : Nat} (m23 i23 : Nat) (g23 : Nat → Int32) (m27 i27 : Nat) (g27 : Nat → Int32) {fs31 : List Value} {x34 : Nat} {fs36 : List Value} {x39 : Nat} {fs41 : List Value} {x44 : Nat} (m46 i46 : Nat) (g46 : Nat → Int32) (m50 i50 : Nat) (g50 : Nat → Int64) {fs54 : List Value} {x57 : Nat} {fs59 : List Value} {x62 : Nat} (m64 i64 : Nat) (g64 : Nat → Int32) {fs68 : List Value} (h9 : f l1 = .inr (12, fs8)) (h10 : l1 < n) (h12 : fs8[43]? = some (.ref x11)) (h14 : f x11 = .inr (13, fs13)) (h15 : x11 < n) (h17 : fs13[6]? = some (.ref x16)) (h19 : f l1 = .inr (12, fs18)) (h20 : l1 < n) (h22 : fs18[13]? = some (.ref x21)) (h24 : f x21 = .inl (0, m23, .inl g23)) (h25 : x21 < n ∨ x21 = mi_SC) (h26 : mi_ix l2 m23 i23) (h28 : f x16 = .inl (2, m27, .inl g27)) (h29 : x16 < n) (h30 : mi_ix (g23 i23) m27 i27) (h32 : (va_up f x16 (.inl (2, m27, .inl (upd g27 i27 (vp_nar .boolean 1))))) l1 = .inr (12, fs31)) (h33 : l1 < n) (h35 : fs31[43]? = some (.ref x34)) (h37 : (va_up f x16 (.inl (2, m27, .inl (upd g27 i27 (vp_nar .boolean 1))))) x34 = .inr (13, fs36)) (h38 : x34 < n) (h40 : fs36[4]? = some (.ref x39)) (h42 : (va_up f x16 (.inl (2, m27, .inl (upd g27 i27 (vp_nar .boolean 1))))) l1 = .inr (12, fs41)) (h43 : l1 < n) (h45 : fs41[13]? = some (.ref x44)) (h47 : (va_up f x16 (.inl (2, m27, .inl (upd g27 i27 (vp_nar .boolean 1))))) x44 = .inl (0, m46, .inl g46)) (h48 : x44 < n ∨ x44 = mi_SC) (h49 : mi_ix l2 m46 i46) (h51 : (va_up f x16 (.inl (2, m27, .inl (upd g27 i27 (vp_nar .boolean 1))))) x39 = .inl (3, m50, .inr (.inl g50))) (h52 : x39 < n) (h53 : mi_ix (g46 i46) m50 i50) (h55 : (va_up (va_up f x16 (.inl (2, m27, .inl (upd g27 i27 (vp_nar .boolean 1))))) x39 (.inl (3, m50, .inr (.inl (vp_updL g50 i50 l3))))) l1 = .inr (12, fs54)) (h56 : l1 < n) (h58 : fs54[43]? = some (.ref x57)) (h60 : (va_up (va_up f x16 (.inl (2, m27, .inl (upd g27 i27 (vp_nar .boolean 1))))) x39 (.inl (3, m50, .inr (.inl (vp_updL g50 i50 l3))))) l1 = .inr (12, fs59)) (h61 : l1 < n) (h63 : fs59[19]? = some (.ref x62)) (h65 : (va_up (va_up f x16 (.inl (2, m27, .inl (upd g27 i27 (vp_nar .boolean 1))))) x39 (.inl (3, m50, .inr (.inl (vp_updL g50 i50 l3))))) x62 = .inl (0, m64, .inl g64)) (h66 : x62 < n ∨ x62 = mi_SC) (h67 : mi_ix l2 m64 i64) (h69 : (va_up (va_up f x16 (.inl (2, m27, .inl (upd g27 i27 (vp_nar .boolean 1))))) x39 (.inl (3, m50, .inr (.inl (vp_updL g50 i50 l3))))) x57 = .inr (13, fs68)) (h70 : x57 < n) (h71 : 0 < fs68.length) (h72 : mi_W d 174 598 [some (.ref l1), some (.int l2), some (.long l3), none, o4, o5, o6, o7] [] (n, sl, (va_up (va_up (va_up f x16 (.inl (2, m27, .inl (upd g27 i27 (vp_nar .boolean 1))))) x39 (.inl (3, m50, .inr (.inl (vp_updL g50 i50 l3))))) x57 (.inr (13, fs68.set 0 (.int (g64 i64)))))) Q) : mi_W d 174 508 [some (.ref l1), some (.int l2), some (.long l3), none, o4, o5, o6, o7] [] (n, sl, f) Q := by
  refine w_aload_n cd_174_508 rfl ?_
  refine w_getfield cd_174_509 (show mt_f 12 445 = some (12, 43) by decide +kernel) h9 h10 h12 ?_
  refine w_getfield cd_174_512 (show mt_f 12 465 = some (13, 6) by decide +kernel) h14 h15 h17 ?_
  refine w_aload_n cd_174_515 rfl ?_
  refine w_getfield cd_174_516 (show mt_f 12 80 = some (12, 13) by decide +kernel) h19 h20 h22 ?_
  refine w_iload_n cd_174_519 rfl ?_
  refine w_iaload cd_174_520 h24 h25 h26 ?_
  refine w_iconst (v := 1) cd_174_521 (by decide) ?_
  refine w_bastore2 cd_174_522 h28 h29 h30 ?_
  refine w_aload_n cd_174_523 rfl ?_
  refine w_getfield cd_174_524 (show mt_f 12 445 = some (12, 43) by decide +kernel) h32 h33 h35 ?_
  refine w_getfield cd_174_527 (show mt_f 12 468 = some (13, 4) by decide +kernel) h37 h38 h40 ?_
  refine w_aload_n cd_174_530 rfl ?_
  refine w_getfield cd_174_531 (show mt_f 12 80 = some (12, 13) by decide +kernel) h42 h43 h45 ?_
  refine w_iload_n cd_174_534 rfl ?_
  refine w_iaload cd_174_535 h47 h48 h49 ?_
  refine w_lload_n cd_174_536 rfl ?_
  refine w_lastore cd_174_537 h51 h52 h53 ?_
  refine w_aload_n cd_174_538 rfl ?_
  refine w_getfield cd_174_539 (show mt_f 12 445 = some (12, 43) by decide +kernel) h55 h56 h58 ?_
  refine w_aload_n cd_174_542 rfl ?_
  refine w_getfield cd_174_543 (show mt_f 12 98 = some (12, 19) by decide +kernel) h60 h61 h63 ?_
  refine w_iload_n cd_174_546 rfl ?_
  refine w_iaload cd_174_547 h65 h66 h67 ?_
  refine w_putfield (w := .int (g64 i64)) cd_174_548 (show mt_f 12 496 = some (13, 0) by decide +kernel) h69 h70 ⟨h71, rfl, Or.inl (by decide)⟩ ?_
  exact w_goto cd_174_551 (by decide) h72
theorem b_174_554 {d : Nat} {Q : (Option Value ⊕ Nat) → mi_H → Prop} (n sl : Nat) (f : Nat → mi_C) {l1 : Nat} {l2 : Int32} {o3 : Option Value} {o4 : Option Value} {o5 : Option Value} {o6 : Option Value} {o7 : Option Value} {o8 : Option Value} {fs9 : List Value} {x12 : Nat} (m14 i14 : Nat) (g14 : Nat → Int32) {fs18 : List Value} (h10 : f l1 = .inr (12, fs9)) (h11 : l1 < n) (h13 : fs9[16]? = some (.ref x12)) (h15 : f x12 = .inl (0, m14, .inl g14)) (h16 : x12 < n ∨ x12 = mi_SC) (h17 : mi_ix l2 m14 i14) (h19 : f l1 = .inr (12, fs18)) (h20 : l1 < n) (h21 : mi_W d 178 0 (mi_en 6 [.ref l1, .int (g14 i14)]) [] (n, sl, f) (mi_Kc d 174 561 [some (.ref l1), some (.int l2), o3, o4, o5, o6, o7, o8] [] Q)) : mi_W (d + 1) 174 554 [some (.ref l1), some (.int l2), o3, o4, o5, o6, o7, o8] [] (n, sl, f) Q := by
  refine w_aload_n cd_174_554 rfl ?_
  refine w_aload_n cd_174_555 rfl ?_
  refine w_getfield cd_174_556 (show mt_f 12 89 = some (12, 16) by decide +kernel) h10 h11 h13 ?_
  refine w_iload_n cd_174_559 rfl ?_
  refine w_iaload cd_174_560 h15 h16 h17 ?_
  exact w_invokevirtual cd_174_561 (show mt_m 12 477 = some (178, 0) by decide +kernel) (rest := []) rfl (as := [.ref l1, .int (g14 i14)]) rfl h19 (Or.inl h20) ⟨Nat.le_of_ble_eq_true rfl, Nat.le_of_ble_eq_true rfl, Nat.le_of_ble_eq_true rfl⟩ h21
theorem b_174_564 {d : Nat} {Q : (Option Value ⊕ Nat) → mi_H → Prop} (n sl : Nat) (f : Nat → mi_C) {l1 : Nat} {l2 : Int32} {o3 : Option Value} {o4 : Option Value} {o5 : Option Value} {o6 : Option Value} {o7 : Option Value} {o8 : Option Value} {s9 : Int32} {fs10 : List Value} {x13 : Int32} (h11 : f l1 = .inr (12, fs10)) (h12 : l1 < n) (h14 : fs10[46]? = some (.int x13)) (h15 : x13 = (0 : Int32) → mi_W d 174 575 [some (.ref l1), some (.int l2), some (.int s9), o4, o5, o6, o7, o8] [] (n, sl, f) Q) (h16 : ¬ (x13 = (0 : Int32)) → mi_W d 174 572 [some (.ref l1), some (.int l2), some (.int s9), o4, o5, o6, o7, o8] [] (n, sl, f) Q) : mi_W d 174 564 [some (.ref l1), some (.int l2), o3, o4, o5, o6, o7, o8] [.int s9] (n, sl, f) Q := by
  refine w_istore_n (ls' := [some (.ref l1), some (.int l2), some (.int s9), o4, o5, o6, o7, o8]) cd_174_564 (Nat.le_of_ble_eq_true rfl) rfl ?_
  refine w_aload_n cd_174_565 rfl ?_
  refine w_getfield cd_174_566 (show mt_f 12 441 = some (12, 46) by decide +kernel) h11 h12 h14 ?_
  exact w_ifeq cd_174_569 (by decide) h15 h16
theorem b_174_572 {d : Nat} {Q : (Option Value ⊕ Nat) → mi_H → Prop} (n sl : Nat) (f : Nat → mi_C) {l1 : Nat} {l2 : Int32} {l3 : Int32} {o4 : Option Value} {o5 : Option Value} {o6 : Option Value} {o7 : Option Value} {o8 : Option Value} (h9 : Q (.inl (some (.int 6))) (n, sl, f)) : mi_W d 174 572 [some (.ref l1), some (.int l2), some (.int l3), o4, o5, o6, o7, o8] [] (n, sl, f) Q := by
  refine w_bipush (v := 6) cd_174_572 (by decide) ?_
  exact w_ireturn_i cd_174_574 (by decide +kernel) h9
theorem b_174_575 {d : Nat} {Q : (Option Value ⊕ Nat) → mi_H → Prop} (n sl : Nat) (f : Nat → mi_C) {l1 : Nat} {l2 : Int32} {l3 : Int32} {o4 : Option Value} {o5 : Option Value} {o6 : Option Value} {o7 : Option Value} {o8 : Option Value} (h9 : ¬ l3 = (0 : Int32) → mi_W d 174 585 [some (.ref l1), some (.int l2), some (.int l3), o4, o5, o6, o7, o8] [] (n, sl, f) Q) (h10 : ¬ (¬ l3 = (0 : Int32)) → mi_W d 174 579 [some (.ref l1), some (.int l2), some (.int l3), o4, o5, o6, o7, o8] [] (n, sl, f) Q) : mi_W d 174 575 [some (.ref l1), some (.int l2), some (.int l3), o4, o5, o6, o7, o8] [] (n, sl, f) Q := by
  refine w_iload_n cd_174_575 rfl ?_
  exact w_ifne cd_174_576 (by decide) h9 h10
theorem b_174_579 {d : Nat} {Q : (Option Value ⊕ Nat) → mi_H → Prop} (n sl : Nat) (f : Nat → mi_C) {l1 : Nat} {l2 : Int32} {l3 : Int32} {o4 : Option Value} {o5 : Option Value} {o6 : Option Value} {o7 : Option Value} {o8 : Option Value} {fs9 : List Value} (h10 : f l1 = .inr (12, fs9)) (h11 : l1 < n) (h12 : mi_W d 181 0 (mi_en 3 [.ref l1, .int 5, .int l2]) [] (n, sl, f) (mi_Kc d 174 582 [some (.ref l1), some (.int l2), some (.int l3), o4, o5, o6, o7, o8] [] Q)) : mi_W (d + 1) 174 579 [some (.ref l1), some (.int l2), some (.int l3), o4, o5, o6, o7, o8] [] (n, sl, f) Q := by
  refine w_aload_n cd_174_579 rfl ?_
  refine w_iconst (v := 5) cd_174_580 (by decide) ?_
  refine w_iload_n cd_174_581 rfl ?_
  exact w_invokevirtual cd_174_582 (show mt_m 12 502 = some (181, 0) by decide +kernel) (rest := []) rfl (as := [.ref l1, .int 5, .int l2]) rfl h10 (Or.inl h11) ⟨Nat.le_of_ble_eq_true rfl, Nat.le_of_ble_eq_true rfl, Nat.le_of_ble_eq_true rfl⟩ h12
theorem b_174_585 {d : Nat} {Q : (Option Value ⊕ Nat) → mi_H → Prop} (n sl : Nat) (f : Nat → mi_C) {l1 : Nat} {l2 : Int32} {l3 : Int32} {o4 : Option Value} {o5 : Option Value} {o6 : Option Value} {o7 : Option Value} {o8 : Option Value} {fs9 : List Value} {x12 : Nat} {fs14 : List Value} {x17 : Nat} (m19 i19 : Nat) (g19 : Nat → Int32) {fs23 : List Value} (h10 : f l1 = .inr (12, fs9)) (h11 : l1 < n) (h13 : fs9[43]? = some (.ref x12)) (h15 : f l1 = .inr (12, fs14)) (h16 : l1 < n) (h18 : fs14[19]? = some (.ref x17)) (h20 : f x17 = .inl (0, m19, .inl g19)) (h21 : x17 < n ∨ x17 = mi_SC) (h22 : mi_ix l2 m19 i19) (h24 : f x12 = .inr (13, fs23)) (h25 : x12 < n) (h26 : 0 < fs23.length) (h27 : mi_W d 174 598 [some (.ref l1), some (.int l2), some (.int l3), o4, o5, o6, o7, o8] [] (n, sl, (va_up f x12 (.inr (13, fs23.set 0 (.int (g19 i19)))))) Q) : mi_W d 174 585 [some (.ref l1), some (.int l2), some (.int l3), o4, o5, o6, o7, o8] [] (n, sl, f) Q := by
  refine w_aload_n cd_174_585 rfl ?_
  refine w_getfield cd_174_586 (show mt_f 12 445 = some (12, 43) by decide +kernel) h10 h11 h13 ?_
  refine w_aload_n cd_174_589 rfl ?_
  refine w_getfield cd_174_590 (show mt_f 12 98 = some (12, 19) by decide +kernel) h15 h16 h18 ?_
  refine w_iload_n cd_174_593 rfl ?_
  refine w_iaload cd_174_594 h20 h21 h22 ?_
  refine w_putfield (w := .int (g19 i19)) cd_174_595 (show mt_f 12 496 = some (13, 0) by decide +kernel) h24 h25 ⟨h26, rfl, Or.inl (by decide)⟩ ?_
  exact h27
theorem b_174_598 {d : Nat} {Q : (Option Value ⊕ Nat) → mi_H → Prop} (n sl : Nat) (f : Nat → mi_C) {l1 : Nat} {l2 : Int32} {o3 : Option Value} {o4 : Option Value} {o5 : Option Value} {o6 : Option Value} {o7 : Option Value} {o8 : Option Value} {fs9 : List Value} (h10 : f l1 = .inr (12, fs9)) (h11 : l1 < n) (h12 : 58 < fs9.length) (h13 : mi_fk .boolean (.int 1) = true) (h14 : mi_W d 174 0 [some (.ref l1), some (.int l2), o3, o4, o5, o6, o7, o8] [] (n, sl, (va_up f l1 (.inr (12, fs9.set 58 (.int 1))))) Q) : mi_W d 174 598 [some (.ref l1), some (.int l2), o3, o4, o5, o6, o7, o8] [] (n, sl, f) Q := by
  refine w_aload_n cd_174_598 rfl ?_
  refine w_iconst (v := 1) cd_174_599 (by decide) ?_
  refine w_putfield (w := .int 1) cd_174_600 (show mt_f 12 506 = some (12, 58) by decide +kernel) h10 h11 ⟨h12, h13, Or.inl (by decide)⟩ ?_
  exact w_goto cd_174_603 (by decide) h14
/-! MarloweHostModel.pay(IIIJ)V -/
theorem cd_175_0 : mt_cd 175 0 = some (.aload_n 0) := by decide +kernel
theorem cd_175_1 : mt_cd 175 1 = some (.getfield 160) := by decide +kernel
theorem cd_175_4 : mt_cd 175 4 = some (.aload_n 0) := by decide +kernel
theorem cd_175_5 : mt_cd 175 5 = some (.getfield 493) := by decide +kernel
theorem cd_175_8 : mt_cd 175 8 = some (.iload_n 1) := by decide +kernel
theorem cd_175_9 : mt_cd 175 9 = some (.iastore) := by decide +kernel
theorem cd_175_10 : mt_cd 175 10 = some (.aload_n 0) := by decide +kernel
theorem cd_175_11 : mt_cd 175 11 = some (.getfield 163) := by decide +kernel
theorem cd_175_14 : mt_cd 175 14 = some (.aload_n 0) := by decide +kernel
theorem cd_175_15 : mt_cd 175 15 = some (.getfield 493) := by decide +kernel
theorem cd_175_18 : mt_cd 175 18 = some (.iload_n 2) := by decide +kernel
theorem cd_175_19 : mt_cd 175 19 = some (.iastore) := by decide +kernel
theorem cd_175_20 : mt_cd 175 20 = some (.aload_n 0) := by decide +kernel
theorem cd_175_21 : mt_cd 175 21 = some (.getfield 166) := by decide +kernel
theorem cd_175_24 : mt_cd 175 24 = some (.aload_n 0) := by decide +kernel
theorem cd_175_25 : mt_cd 175 25 = some (.getfield 493) := by decide +kernel
theorem cd_175_28 : mt_cd 175 28 = some (.iload_n 3) := by decide +kernel
theorem cd_175_29 : mt_cd 175 29 = some (.iastore) := by decide +kernel
theorem cd_175_30 : mt_cd 175 30 = some (.aload_n 0) := by decide +kernel
theorem cd_175_31 : mt_cd 175 31 = some (.getfield 169) := by decide +kernel
theorem cd_175_34 : mt_cd 175 34 = some (.aload_n 0) := by decide +kernel
theorem cd_175_35 : mt_cd 175 35 = some (.dup) := by decide +kernel
theorem cd_175_36 : mt_cd 175 36 = some (.getfield 493) := by decide +kernel
theorem cd_175_39 : mt_cd 175 39 = some (.dup_x1) := by decide +kernel
theorem cd_175_40 : mt_cd 175 40 = some (.iconst 1) := by decide +kernel
theorem cd_175_41 : mt_cd 175 41 = some (.iadd) := by decide +kernel
theorem cd_175_42 : mt_cd 175 42 = some (.putfield 493) := by decide +kernel
theorem cd_175_45 : mt_cd 175 45 = some (.lload 4) := by decide +kernel
theorem cd_175_47 : mt_cd 175 47 = some (.lastore) := by decide +kernel
theorem cd_175_48 : mt_cd 175 48 = some (.return_) := by decide +kernel
theorem b_175_0 {d : Nat} {Q : (Option Value ⊕ Nat) → mi_H → Prop} (n sl : Nat) (f : Nat → mi_C) {l1 : Nat} {l2 : Int32} {l3 : Int32} {l4 : Int32} {l5 : Int64} {fs6 : List Value} {x9 : Nat} {fs11 : List Value} {x14 : Int32} (m16 i16 : Nat) (g16 : Nat → Int32) {fs20 : List Value} {x23 : Nat} {fs25 : List Value} {x28 : Int32} (m30 i30 : Nat) (g30 : Nat → Int32) {fs34 : List Value} {x37 : Nat} {fs39 : List Value} {x42 : Int32} (m44 i44 : Nat) (g44 : Nat → Int32) {fs48 : List Value} {x51 : Nat} {fs53 : List Value} {x56 : Int32} {fs58 : List Value} (m62 i62 : Nat) (g62 : Nat → Int64) (h7 : f l1 = .inr (12, fs6)) (h8 : l1 < n) (h10 : fs6[51]? = some (.ref x9)) (h12 : f l1 = .inr (12, fs11)) (h13 : l1 < n) (h15 : fs11[48]? = some (.int x14)) (h17 : f x9 = .inl (0, m16, .inl g16)) (h18 : x9 < n) (h19 : mi_ix x14 m16 i16) (h21 : (va_up f x9 (.inl (0, m16, .inl (upd g16 i16 l2)))) l1 = .inr (12, fs20)) (h22 : l1 < n) (h24 : fs20[52]? = some (.ref x23)) (h26 : (va_up f x9 (.inl (0, m16, .inl (upd g16 i16 l2)))) l1 = .inr (12, fs25)) (h27 : l1 < n) (h29 : fs25[48]? = some (.int x28)) (h31 : (va_up f x9 (.inl (0, m16, .inl (upd g16 i16 l2)))) x23 = .inl (0, m30, .inl g30)) (h32 : x23 < n) (h33 : mi_ix x28 m30 i30) (h35 : (va_up (va_up f x9 (.inl (0, m16, .inl (upd g16 i16 l2)))) x23 (.inl (0, m30, .inl (upd g30 i30 l3)))) l1 = .inr (12, fs34)) (h36 : l1 < n) (h38 : fs34[53]? = some (.ref x37)) (h40 : (va_up (va_up f x9 (.inl (0, m16, .inl (upd g16 i16 l2)))) x23 (.inl (0, m30, .inl (upd g30 i30 l3)))) l1 = .inr (12, fs39)) (h41 : l1 < n) (h43 : fs39[48]? = some (.int x42)) (h45 : (va_up (va_up f x9 (.inl (0, m16, .inl (upd g16 i16 l2)))) x23 (.inl (0, m30, .inl (upd g30 i30 l3)))) x37 = .inl (0, m44, .inl g44)) (h46 : x37 < n) (h47 : mi_ix x42 m44 i44) (h49 : (va_up (va_up (va_up f x9 (.inl (0, m16, .inl (upd g16 i16 l2)))) x23 (.inl (0, m30, .inl (upd g30 i30 l3)))) x37 (.inl (0, m44, .inl (upd g44 i44 l4)))) l1 = .inr (12, fs48)) (h50 : l1 < n) (h52 : fs48[54]? = some (.ref x51)) (h54 : (va_up (va_up (va_up f x9 (.inl (0, m16, .inl (upd g16 i16 l2)))) x23 (.inl (0, m30, .inl (upd g30 i30 l3)))) x37 (.inl (0, m44, .inl (upd g44 i44 l4)))) l1 = .inr (12, fs53)) (h55 : l1 < n) (h57 : fs53[48]? = some (.int x56)) (h59 : (va_up (va_up (va_up f x9 (.inl (0, m16, .inl (upd g16 i16 l2)))) x23 (.inl (0, m30, .inl (upd g30 i30 l3)))) x37 (.inl (0, m44, .inl (upd g44 i44 l4)))) l1 = .inr (12, fs58)) (h60 : l1 < n) (h61 : 48 < fs58.length) (h63 : (va_up (va_up (va_up (va_up f x9 (.inl (0, m16, .inl (upd g16 i16 l2)))) x23 (.inl (0, m30, .inl (upd g30 i30 l3)))) x37 (.inl (0, m44, .inl (upd g44 i44 l4)))) l1 (.inr (12, fs58.set 48 (.int (x56 + 1))))) x51 = .inl (3, m62, .inr (.inl g62))) (h64 : x51 < n) (h65 : mi_ix x56 m62 i62) (h66 : Q (.inl none) (n, sl, (va_up (va_up (va_up (va_up (va_up f x9 (.inl (0, m16, .inl (upd g16 i16 l2)))) x23 (.inl (0, m30, .inl (upd g30 i30 l3)))) x37 (.inl (0, m44, .inl (upd g44 i44 l4)))) l1 (.inr (12, fs58.set 48 (.int (x56 + 1))))) x51 (.inl (3, m62, .inr (.inl (vp_updL g62 i62 l5))))))) : mi_W d 175 0 [some (.ref l1), some (.int l2), some (.int l3), some (.int l4), some (.long l5), none] [] (n, sl, f) Q := by
  refine w_aload_n cd_175_0 rfl ?_
  refine w_getfield cd_175_1 (show mt_f 12 160 = some (12, 51) by decide +kernel) h7 h8 h10 ?_
  refine w_aload_n cd_175_4 rfl ?_
  refine w_getfield cd_175_5 (show mt_f 12 493 = some (12, 48) by decide +kernel) h12 h13 h15 ?_
  refine w_iload_n cd_175_8 rfl ?_
  refine w_iastore cd_175_9 h17 h18 h19 ?_
  refine w_aload_n cd_175_10 rfl ?_
  refine w_getfield cd_175_11 (show mt_f 12 163 = some (12, 52) by decide +kernel) h21 h22 h24 ?_
  refine w_aload_n cd_175_14 rfl ?_
  refine w_getfield cd_175_15 (show mt_f 12 493 = some (12, 48) by decide +kernel) h26 h27 h29 ?_
  refine w_iload_n cd_175_18 rfl ?_
  refine w_iastore cd_175_19 h31 h32 h33 ?_
  refine w_aload_n cd_175_20 rfl ?_
  refine w_getfield cd_175_21 (show mt_f 12 166 = some (12, 53) by decide +kernel) h35 h36 h38 ?_
  refine w_aload_n cd_175_24 rfl ?_
  refine w_getfield cd_175_25 (show mt_f 12 493 = some (12, 48) by decide +kernel) h40 h41 h43 ?_
  refine w_iload_n cd_175_28 rfl ?_
  refine w_iastore cd_175_29 h45 h46 h47 ?_
  refine w_aload_n cd_175_30 rfl ?_
  refine w_getfield cd_175_31 (show mt_f 12 169 = some (12, 54) by decide +kernel) h49 h50 h52 ?_
  refine w_aload_n cd_175_34 rfl ?_
  refine w_dup_r cd_175_35 ?_
  refine w_getfield cd_175_36 (show mt_f 12 493 = some (12, 48) by decide +kernel) h54 h55 h57 ?_
  refine w_dup_x1_ir cd_175_39 ?_
  refine w_iconst (v := 1) cd_175_40 (by decide) ?_
  refine w_iadd cd_175_41 ?_
  refine w_putfield (w := .int (x56 + 1)) cd_175_42 (show mt_f 12 493 = some (12, 48) by decide +kernel) h59 h60 ⟨h61, rfl, Or.inl (by decide)⟩ ?_
  refine w_lload cd_175_45 rfl ?_
  refine w_lastore cd_175_47 h63 h64 h65 ?_
  exact w_return cd_175_48 (by decide +kernel) h66
/-! MarloweHostModel.tell(I)J -/
theorem cd_176_0 : mt_cd 176 0 = some (.aload_n 0) := by decide +kernel
theorem cd_176_1 : mt_cd 176 1 = some (.getfield 441) := by decide +kernel
theorem cd_176_4 : mt_cd 176 4 = some (.ifCond .eq 5) := by decide +kernel
theorem cd_176_7 : mt_cd 176 7 = some (.lconst 0) := by decide +kernel
theorem cd_176_8 : mt_cd 176 8 = some (.lreturn) := by decide +kernel
theorem cd_176_9 : mt_cd 176 9 = some (.aload_n 0) := by decide +kernel
theorem cd_176_10 : mt_cd 176 10 = some (.getfield 77) := by decide +kernel
theorem cd_176_13 : mt_cd 176 13 = some (.iload_n 1) := by decide +kernel
theorem cd_176_14 : mt_cd 176 14 = some (.iaload) := by decide +kernel
theorem cd_176_15 : mt_cd 176 15 = some (.tableswitch 235 10 21 #[61, 68, 92, 235, 235, 235, 235, 108, 144, 180, 189, 198]) := by decide +kernel
theorem cd_176_76 : mt_cd 176 76 = some (.aload_n 0) := by decide +kernel
theorem cd_176_77 : mt_cd 176 77 = some (.getfield 101) := by decide +kernel
theorem cd_176_80 : mt_cd 176 80 = some (.iload_n 1) := by decide +kernel
theorem cd_176_81 : mt_cd 176 81 = some (.laload) := by decide +kernel
theorem cd_176_82 : mt_cd 176 82 = some (.lreturn) := by decide +kernel
theorem cd_176_83 : mt_cd 176 83 = some (.aload_n 0) := by decide +kernel
theorem cd_176_84 : mt_cd 176 84 = some (.getfield 445) := by decide +kernel
theorem cd_176_87 : mt_cd 176 87 = some (.getfield 448) := by decide +kernel
theorem cd_176_90 : mt_cd 176 90 = some (.iconst 4) := by decide +kernel
theorem cd_176_91 : mt_cd 176 91 = some (.aload_n 0) := by decide +kernel
theorem cd_176_92 : mt_cd 176 92 = some (.getfield 80) := by decide +kernel
theorem cd_176_95 : mt_cd 176 95 = some (.iload_n 1) := by decide +kernel
theorem cd_176_96 : mt_cd 176 96 = some (.iaload) := by decide +kernel
theorem cd_176_97 : mt_cd 176 97 = some (.imul) := by decide +kernel
theorem cd_176_98 : mt_cd 176 98 = some (.aload_n 0) := by decide +kernel
theorem cd_176_99 : mt_cd 176 99 = some (.getfield 86) := by decide +kernel
theorem cd_176_102 : mt_cd 176 102 = some (.iload_n 1) := by decide +kernel
theorem cd_176_103 : mt_cd 176 103 = some (.iaload) := by decide +kernel
theorem cd_176_104 : mt_cd 176 104 = some (.iadd) := by decide +kernel
theorem cd_176_105 : mt_cd 176 105 = some (.laload) := by decide +kernel
theorem cd_176_106 : mt_cd 176 106 = some (.lreturn) := by decide +kernel
theorem cd_176_107 : mt_cd 176 107 = some (.aload_n 0) := by decide +kernel
theorem cd_176_108 : mt_cd 176 108 = some (.aload_n 0) := by decide +kernel
theorem cd_176_109 : mt_cd 176 109 = some (.aload_n 0) := by decide +kernel
theorem cd_176_110 : mt_cd 176 110 = some (.getfield 80) := by decide +kernel
theorem cd_176_113 : mt_cd 176 113 = some (.iload_n 1) := by decide +kernel
theorem cd_176_114 : mt_cd 176 114 = some (.iaload) := by decide +kernel
theorem cd_176_115 : mt_cd 176 115 = some (.invokevirtual 451) := by decide +kernel
theorem cd_176_118 : mt_cd 176 118 = some (.lneg) := by decide +kernel
theorem cd_176_119 : mt_cd 176 119 = some (.invokevirtual 455) := by decide +kernel
theorem cd_176_122 : mt_cd 176 122 = some (.lreturn) := by decide +kernel
theorem cd_176_123 : mt_cd 176 123 = some (.aload_n 0) := by decide +kernel
theorem cd_176_124 : mt_cd 176 124 = some (.getfield 445) := by decide +kernel
theorem cd_176_127 : mt_cd 176 127 = some (.getfield 459) := by decide +kernel
theorem cd_176_130 : mt_cd 176 130 = some (.aload_n 0) := by decide +kernel
theorem cd_176_131 : mt_cd 176 131 = some (.getfield 80) := by decide +kernel
theorem cd_176_134 : mt_cd 176 134 = some (.iload_n 1) := by decide +kernel
theorem cd_176_135 : mt_cd 176 135 = some (.iaload) := by decide +kernel
theorem cd_176_136 : mt_cd 176 136 = some (.baload) := by decide +kernel
theorem cd_176_137 : mt_cd 176 137 = some (.ifCond .eq 20) := by decide +kernel
theorem cd_176_140 : mt_cd 176 140 = some (.aload_n 0) := by decide +kernel
theorem cd_176_141 : mt_cd 176 141 = some (.getfield 445) := by decide +kernel
theorem cd_176_144 : mt_cd 176 144 = some (.getfield 463) := by decide +kernel
theorem cd_176_147 : mt_cd 176 147 = some (.aload_n 0) := by decide +kernel
theorem cd_176_148 : mt_cd 176 148 = some (.getfield 80) := by decide +kernel
theorem cd_176_151 : mt_cd 176 151 = some (.iload_n 1) := by decide +kernel
theorem cd_176_152 : mt_cd 176 152 = some (.iaload) := by decide +kernel
theorem cd_176_153 : mt_cd 176 153 = some (.laload) := by decide +kernel
theorem cd_176_154 : mt_cd 176 154 = some (.goto 4) := by decide +kernel
theorem cd_176_157 : mt_cd 176 157 = some (.lconst 0) := by decide +kernel
theorem cd_176_158 : mt_cd 176 158 = some (.lreturn) := by decide +kernel
theorem cd_176_159 : mt_cd 176 159 = some (.aload_n 0) := by decide +kernel
theorem cd_176_160 : mt_cd 176 160 = some (.getfield 445) := by decide +kernel
theorem cd_176_163 : mt_cd 176 163 = some (.getfield 465) := by decide +kernel
theorem cd_176_166 : mt_cd 176 166 = some (.aload_n 0) := by decide +kernel
theorem cd_176_167 : mt_cd 176 167 = some (.getfield 80) := by decide +kernel
theorem cd_176_170 : mt_cd 176 170 = some (.iload_n 1) := by decide +kernel
theorem cd_176_171 : mt_cd 176 171 = some (.iaload) := by decide +kernel
theorem cd_176_172 : mt_cd 176 172 = some (.baload) := by decide +kernel
theorem cd_176_173 : mt_cd 176 173 = some (.ifCond .eq 20) := by decide +kernel
theorem cd_176_176 : mt_cd 176 176 = some (.aload_n 0) := by decide +kernel
theorem cd_176_177 : mt_cd 176 177 = some (.getfield 445) := by decide +kernel
theorem cd_176_180 : mt_cd 176 180 = some (.getfield 468) := by decide +kernel
theorem cd_176_183 : mt_cd 176 183 = some (.aload_n 0) := by decide +kernel
theorem cd_176_184 : mt_cd 176 184 = some (.getfield 80) := by decide +kernel
theorem cd_176_187 : mt_cd 176 187 = some (.iload_n 1) := by decide +kernel
theorem cd_176_188 : mt_cd 176 188 = some (.iaload) := by decide +kernel
theorem cd_176_189 : mt_cd 176 189 = some (.laload) := by decide +kernel
theorem cd_176_190 : mt_cd 176 190 = some (.goto 4) := by decide +kernel
theorem cd_176_193 : mt_cd 176 193 = some (.lconst 0) := by decide +kernel
theorem cd_176_194 : mt_cd 176 194 = some (.lreturn) := by decide +kernel
theorem cd_176_195 : mt_cd 176 195 = some (.aload_n 0) := by decide +kernel
theorem cd_176_196 : mt_cd 176 196 = some (.aload_n 0) := by decide +kernel
theorem cd_176_197 : mt_cd 176 197 = some (.getfield 471) := by decide +kernel
theorem cd_176_200 : mt_cd 176 200 = some (.invokevirtual 455) := by decide +kernel
theorem cd_176_203 : mt_cd 176 203 = some (.lreturn) := by decide +kernel
theorem cd_176_204 : mt_cd 176 204 = some (.aload_n 0) := by decide +kernel
theorem cd_176_205 : mt_cd 176 205 = some (.aload_n 0) := by decide +kernel
theorem cd_176_206 : mt_cd 176 206 = some (.getfield 474) := by decide +kernel
theorem cd_176_209 : mt_cd 176 209 = some (.invokevirtual 455) := by decide +kernel
theorem cd_176_212 : mt_cd 176 212 = some (.lreturn) := by decide +kernel
theorem cd_176_213 : mt_cd 176 213 = some (.aload_n 0) := by decide +kernel
theorem cd_176_214 : mt_cd 176 214 = some (.aload_n 0) := by decide +kernel
theorem cd_176_215 : mt_cd 176 215 = some (.getfield 89) := by decide +kernel
theorem cd_176_218 : mt_cd 176 218 = some (.iload_n 1) := by decide +kernel
theorem cd_176_219 : mt_cd 176 219 = some (.iaload) := by decide +kernel
theorem cd_176_220 : mt_cd 176 220 = some (.invokevirtual 477) := by decide +kernel
theorem cd_176_223 : mt_cd 176 223 = some (.ifCond .eq 16) := by decide +kernel
theorem cd_176_226 : mt_cd 176 226 = some (.aload_n 0) := by decide +kernel
theorem cd_176_227 : mt_cd 176 227 = some (.aload_n 0) := by decide +kernel
theorem cd_176_228 : mt_cd 176 228 = some (.getfield 80) := by decide +kernel
theorem cd_176_231 : mt_cd 176 231 = some (.iload_n 1) := by decide +kernel
theorem cd_176_232 : mt_cd 176 232 = some (.iaload) := by decide +kernel
theorem cd_176_233 : mt_cd 176 233 = some (.invokevirtual 451) := by decide +kernel
theorem cd_176_236 : mt_cd 176 236 = some (.goto 13) := by decide +kernel
theorem cd_176_239 : mt_cd 176 239 = some (.aload_n 0) := by decide +kernel
theorem cd_176_240 : mt_cd 176 240 = some (.aload_n 0) := by decide +kernel
theorem cd_176_241 : mt_cd 176 241 = some (.getfield 83) := by decide +kernel
theorem cd_176_244 : mt_cd 176 244 = some (.iload_n 1) := by decide +kernel
theorem cd_176_245 : mt_cd 176 245 = some (.iaload) := by decide +kernel
theorem cd_176_246 : mt_cd 176 246 = some (.invokevirtual 451) := by decide +kernel
theorem cd_176_249 : mt_cd 176 249 = some (.lreturn) := by decide +kernel
theorem cd_176_250 : mt_cd 176 250 = some (.aload_n 0) := by decide +kernel
theorem cd_176_251 : mt_cd 176 251 = some (.aload_n 0) := by decide +kernel
theorem cd_176_252 : mt_cd 176 252 = some (.getfield 77) := by decide +kernel
theorem cd_176_255 : mt_cd 176 255 = some (.iload_n 1) := by decide +kernel
theorem cd_176_256 : mt_cd 176 256 = some (.iaload) := by decide +kernel
theorem cd_176_257 : mt_cd 176 257 = some (.aload_n 0) := by decide +kernel
theorem cd_176_258 : mt_cd 176 258 = some (.aload_n 0) := by decide +kernel
theorem cd_176_259 : mt_cd 176 259 = some (.getfield 80) := by decide +kernel
theorem cd_176_262 : mt_cd 176 262 = some (.iload_n 1) := by decide +kernel
theorem cd_176_263 : mt_cd 176 263 = some (.iaload) := by decide +kernel
theorem cd_176_264 : mt_cd 176 264 = some (.invokevirtual 451) := by decide +kernel
theorem cd_176_267 : mt_cd 176 267 = some (.aload_n 0) := by decide +kernel
theorem cd_176_268 : mt_cd 176 268 = some (.aload_n 0) := by decide +kernel
theorem cd_176_269 : mt_cd 176 269 = some (.getfield 83) := by decide +kernel
theorem cd_176_272 : mt_cd 176 272 = some (.iload_n 1) := by decide +kernel
theorem cd_176_273 : mt_cd 176 273 = some (.iaload) := by decide +kernel
theorem cd_176_274 : mt_cd 176 274 = some (.invokevirtual 451) := by decide +kernel
theorem cd_176_277 : mt_cd 176 277 = some (.invokevirtual 480) := by decide +kernel
theorem cd_176_280 : mt_cd 176 280 = some (.lreturn) := by decide +kernel
theorem b_176_0 {d : Nat} {Q : (Option Value ⊕ Nat) → mi_H → Prop} (n sl : Nat) (f : Nat → mi_C) {l1 : Nat} {l2 : Int32} {fs3 : List Value} {x6 : Int32} (h4 : f l1 = .inr (12, fs3)) (h5 : l1 < n) (h7 : fs3[46]? = some (.int x6)) (h8 : x6 = (0 : Int32) → mi_W d 176 9 [some (.ref l1), some (.int l2)] [] (n, sl, f) Q) (h9 : ¬ (x6 = (0 : Int32)) → mi_W d 176 7 [some (.ref l1), some (.int l2)] [] (n, sl, f) Q) : mi_W d 176 0 [some (.ref l1), some (.int l2)] [] (n, sl, f) Q := by
  refine w_aload_n cd_176_0 rfl ?_
  refine w_getfield cd_176_1 (show mt_f 12 441 = some (12, 46) by decide +kernel) h4 h5 h7 ?_
  exact w_ifeq cd_176_4 (by decide) h8 h9
theorem b_176_7 {d : Nat} {Q : (Option Value ⊕ Nat) → mi_H → Prop} (n sl : Nat) (f : Nat → mi_C) {l1 : Nat} {l2 : Int32} (h3 : Q (.inl (some (.long 0))) (n, sl, f)) : mi_W d 176 7 [some (.ref l1), some (.int l2)] [] (n, sl, f) Q := by
  refine w_lconst (lv := 0) cd_176_7 (by decide) ?_
  exact w_lreturn cd_176_8 (by decide +kernel) h3
theorem b_176_9 {d : Nat} {Q : (Option Value ⊕ Nat) → mi_H → Prop} (n sl : Nat) (f : Nat → mi_C) {l1 : Nat} {l2 : Int32} {fs3 : List Value} {x6 : Nat} (m8 i8 : Nat) (g8 : Nat → Int32) {t12 : Nat} (h4 : f l1 = .inr (12, fs3)) (h5 : l1 < n) (h7 : fs3[12]? = some (.ref x6)) (h9 : f x6 = .inl (0, m8, .inl g8)) (h10 : x6 < n ∨ x6 = mi_SC) (h11 : mi_ix l2 m8 i8) (h13 : mi_ts 15 235 10 21 #[61, 68, 92, 235, 235, 235, 235, 108, 144, 180, 189, 198] ((g8 i8) : Int32).toInt = some t12) (h14 : mi_W d 176 t12 [some (.ref l1), some (.int l2)] [] (n, sl, f) Q) : mi_W d 176 9 [some (.ref l1), some (.int l2)] [] (n, sl, f) Q := by
  refine w_aload_n cd_176_9 rfl ?_
  refine w_getfield cd_176_10 (show mt_f 12 77 = some (12, 12) by decide +kernel) h4 h5 h7 ?_
  refine w_iload_n cd_176_13 rfl ?_
  refine w_iaload cd_176_14 h9 h10 h11 ?_
  exact w_tableswitch cd_176_15 h13 h14
theorem b_176_76 {d : Nat} {Q : (Option Value ⊕ Nat) → mi_H → Prop} (n sl : Nat) (f : Nat → mi_C) {l1 : Nat} {l2 : Int32} {fs3 : List Value} {x6 : Nat} (m8 i8 : Nat) (g8 : Nat → Int64) (h4 : f l1 = .inr (12, fs3)) (h5 : l1 < n) (h7 : fs3[20]? = some (.ref x6)) (h9 : f x6 = .inl (3, m8, .inr (.inl g8))) (h10 : x6 < n) (h11 : mi_ix l2 m8 i8) (h12 : Q (.inl (some (.long (g8 i8)))) (n, sl, f)) : mi_W d 176 76 [some (.ref l1), some (.int l2)] [] (n, sl, f) Q := by
  refine w_aload_n cd_176_76 rfl ?_
  refine w_getfield cd_176_77 (show mt_f 12 101 = some (12, 20) by decide +kernel) h4 h5 h7 ?_
  refine w_iload_n cd_176_80 rfl ?_
  refine w_laload cd_176_81 h9 h10 h11 ?_
  exact w_lreturn cd_176_82 (by decide +kernel) h12
theorem b_176_83 {d : Nat} {Q : (Option Value ⊕ Nat) → mi_H → Prop} (n sl : Nat) (f : Nat → mi_C) {l1 : Nat} {l2 : Int32} {fs3 : List Value} {x6 : Nat} {fs8 : List Value} {x11 : Nat} {fs13 : List Value} {x16 : Nat} (m18 i18 : Nat) (g18 : Nat → Int32) {fs22 : List Value} {x25 : Nat} (m27 i27 : Nat) (g27 : Nat → Int32) (m31 i31 : Nat) (g31 : Nat → Int64) (h4 : f l1 = .inr (12, fs3)) (h5 : l1 < n) (h7 : fs3[43]? = some (.ref x6)) (h9 : f x6 = .inr (13, fs8)) (h10 : x6 < n) (h12 : fs8[2]? = some (.ref x11)) (h14 : f l1 = .inr (12, fs13)) (h15 : l1 < n) (h17 : fs13[13]? = some (.ref x16)) (h19 : f x16 = .inl (0, m18, .inl g18)) (h20 : x16 < n ∨ x16 = mi_SC) (h21 : mi_ix l2 m18 i18) (h23 : f l1 = .inr (12, fs22)) (h24 : l1 < n) (h26 : fs22[15]? = some (.ref x25)) (h28 : f x25 = .inl (0, m27, .inl g27)) (h29 : x25 < n ∨ x25 = mi_SC) (h30 : mi_ix l2 m27 i27) (h32 : f x11 = .inl (3, m31, .inr (.inl g31))) (h33 : x11 < n) (h34 : mi_ix ((4 * (g18 i18)) + (g27 i27)) m31 i31) (h35 : Q (.inl (some (.long (g31 i31)))) (n, sl, f)) : mi_W d 176 83 [some (.ref l1), some (.int l2)] [] (n, sl, f) Q := by
  refine w_aload_n cd_176_83 rfl ?_
  refine w_getfield cd_176_84 (show mt_f 12 445 = some (12, 43) by decide +kernel) h4 h5 h7 ?_
  refine w_getfield cd_176_87 (show mt_f 12 448 = some (13, 2) by decide +kernel) h9 h10 h12 ?_
  refine w_iconst (v := 4) cd_176_90 (by decide) ?_
  refine w_aload_n cd_176_91 rfl ?_
  refine w_getfield cd_176_92 (show mt_f 12 80 = some (12, 13) by decide +kernel) h14 h15 h17 ?_
  refine w_iload_n cd_176_95 rfl ?_
  refine w_iaload cd_176_96 h19 h20 h21 ?_
  refine w_imul cd_176_97 ?_
  refine w_aload_n cd_176_98 rfl ?_
  refine w_getfield cd_176_99 (show mt_f 12 86 = some (12, 15) by decide +kernel) h23 h24 h26 ?_
  refine w_iload_n cd_176_102 rfl ?_
  refine w_iaload cd_176_103 h28 h29 h30 ?_
  refine w_iadd cd_176_104 ?_
  refine w_laload cd_176_105 h32 h33 h34 ?_
  exact w_lreturn cd_176_106 (by decide +kernel) h35
theorem b_176_107 {d : Nat} {Q : (Option Value ⊕ Nat) → mi_H → Prop} (n sl : Nat) (f : Nat → mi_C) {l1 : Nat} {l2 : Int32} {fs3 : List Value} {x6 : Nat} (m8 i8 : Nat) (g8 : Nat → Int32) {fs12 : List Value} (h4 : f l1 = .inr (12, fs3)) (h5 : l1 < n) (h7 : fs3[13]? = some (.ref x6)) (h9 : f x6 = .inl (0, m8, .inl g8)) (h10 : x6 < n ∨ x6 = mi_SC) (h11 : mi_ix l2 m8 i8) (h13 : f l1 = .inr (12, fs12)) (h14 : l1 < n) (h15 : mi_W d 176 0 (mi_en 2 [.ref l1, .int (g8 i8)]) [] (n, sl, f) (mi_Kc d 176 115 [some (.ref l1), some (.int l2)] [.ref l1] Q)) : mi_W (d + 1) 176 107 [some (.ref l1), some (.int l2)] [] (n, sl, f) Q := by
  refine w_aload_n cd_176_107 rfl ?_
  refine w_aload_n cd_176_108 rfl ?_
  refine w_aload_n cd_176_109 rfl ?_
  refine w_getfield cd_176_110 (show mt_f 12 80 = some (12, 13) by decide +kernel) h4 h5 h7 ?_
  refine w_iload_n cd_176_113 rfl ?_
  refine w_iaload cd_176_114 h9 h10 h11 ?_
  exact w_invokevirtual cd_176_115 (show mt_m 12 451 = some (176, 0) by decide +kernel) (rest := [.ref l1]) rfl (as := [.ref l1, .int (g8 i8)]) rfl h13 (Or.inl h14) ⟨Nat.le_of_ble_eq_true rfl, Nat.le_of_ble_eq_true rfl, Nat.le_of_ble_eq_true rfl⟩ h15
theorem b_176_118 {d : Nat} {Q : (Option Value ⊕ Nat) → mi_H → Prop} (n sl : Nat) (f : Nat → mi_C) {l1 : Nat} {l2 : Int32} {s3 : Int64} {s4 : Nat} {fs5 : List Value} (h6 : f s4 = .inr (12, fs5)) (h7 : s4 < n) (h8 : mi_W d 177 0 (mi_en 3 [.ref s4, .long (-s3)]) [] (n, sl, f) (mi_Kc d 176 119 [some (.ref l1), some (.int l2)] [] Q)) : mi_W (d + 1) 176 118 [some (.ref l1), some (.int l2)] [.long s3, .ref s4] (n, sl, f) Q := by
  refine w_lneg cd_176_118 ?_
  exact w_invokevirtual cd_176_119 (show mt_m 12 455 = some (177, 0) by decide +kernel) (rest := []) rfl (as := [.ref s4, .long (-s3)]) rfl h6 (Or.inl h7) ⟨Nat.le_of_ble_eq_true rfl, Nat.le_of_ble_eq_true rfl, Nat.le_of_ble_eq_true rfl⟩ h8
theorem b_176_122 {d : Nat} {Q : (Option Value ⊕ Nat) → mi_H → Prop} (n sl : Nat) (f : Nat → mi_C) {l1 : Nat} {l2 : Int32} {s3 : Int64} (h4 : Q (.inl (some (.long s3))) (n, sl, f)) : mi_W d 176 122 [some (.ref l1), some (.int l2)] [.long s3] (n, sl, f) Q := by
  exact w_lreturn cd_176_122 (by decide +kernel) h4
theorem b_176_123 {d : Nat} {Q : (Option Value ⊕ Nat) → mi_H → Prop} (n sl : Nat) (f : Nat → mi_C) {l1 : Nat} {l2 : Int32} {fs3 : List Value} {x6 : Nat} {fs8 : List Value} {x11 : Nat} {fs13 : List Value} {x16 : Nat} (m18 i18 : Nat) (g18 : Nat → Int32) (m22 i22 : Nat) (g22 : Nat → Int32) (h4 : f l1 = .inr (12, fs3)) (h5 : l1 < n) (h7 : fs3[43]? = some (.ref x6)) (h9 : f x6 = .inr (13, fs8)) (h10 : x6 < n) (h12 : fs8[5]? = some (.ref x11)) (h14 : f l1 = .inr (12, fs13)) (h15 : l1 < n) (h17 : fs13[13]? = some (.ref x16)) (h19 : f x16 = .inl (0, m18, .inl g18)) (h20 : x16 < n ∨ x16 = mi_SC) (h21 : mi_ix l2 m18 i18) (h23 : f x11 = .inl (2, m22, .inl g22)) (h24 : x11 < n) (h25 : mi_ix (g18 i18) m22 i22) (h26 : (g22 i22) = (0 : Int32) → mi_W d 176 157 [some (.ref l1), some (.int l2)] [] (n, sl, f) Q) (h27 : ¬ ((g22 i22) = (0 : Int32)) → mi_W d 176 140 [some (.ref l1), some (.int l2)] [] (n, sl, f) Q) : mi_W d 176 123 [some (.ref l1), some (.int l2)] [] (n, sl, f) Q := by
  refine w_aload_n cd_176_123 rfl ?_
  refine w_getfield cd_176_124 (show mt_f 12 445 = some (12, 43) by decide +kernel) h4 h5 h7 ?_
  refine w_getfield cd_176_127 (show mt_f 12 459 = some (13, 5) by decide +kernel) h9 h10 h12 ?_
  refine w_aload_n cd_176_130 rfl ?_
  refine w_getfield cd_176_131 (show mt_f 12 80 = some (12, 13) by decide +kernel) h14 h15 h17 ?_
  refine w_iload_n cd_176_134 rfl ?_
  refine w_iaload cd_176_135 h19 h20 h21 ?_
  refine w_baload2 cd_176_136 h23 h24 h25 ?_
  exact w_ifeq cd_176_137 (by decide) h26 h27
theorem b_176_140 {d : Nat} {Q : (Option Value ⊕ Nat) → mi_H → Prop} (n sl : Nat) (f : Nat → mi_C) {l1 : Nat} {l2 : Int32} {fs3 : List Value} {x6 : Nat} {fs8 : List Value} {x11 : Nat} {fs13 : List Value} {x16 : Nat} (m18 i18 : Nat) (g18 : Nat → Int32) (m22 i22 : Nat) (g22 : Nat → Int64) (h4 : f l1 = .inr (12, fs3)) (h5 : l1 < n) (h7 : fs3[43]? = some (.ref x6)) (h9 : f x6 = .inr (13, fs8)) (h10 : x6 < n) (h12 : fs8[3]? = some (.ref x11)) (h14 : f l1 = .inr (12, fs13)) (h15 : l1 < n) (h17 : fs13[13]? = some (.ref x16)) (h19 : f x16 = .inl (0, m18, .inl g18)) (h20 : x16 < n ∨ x16 = mi_SC) (h21 : mi_ix l2 m18 i18) (h23 : f x11 = .inl (3, m22, .inr (.inl g22))) (h24 : x11 < n) (h25 : mi_ix (g18 i18) m22 i22) (h26 : mi_W d 176 158 [some (.ref l1), some (.int l2)] [.long (g22 i22)] (n, sl, f) Q) : mi_W d 176 140 [some (.ref l1), some (.int l2)] [] (n, sl, f) Q := by
  refine w_aload_n cd_176_140 rfl ?_
  refine w_getfield cd_176_141 (show mt_f 12 445 = some (12, 43) by decide +kernel) h4 h5 h7 ?_
  refine w_getfield cd_176_144 (show mt_f 12 463 = some (13, 3) by decide +kernel) h9 h10 h12 ?_
  refine w_aload_n cd_176_147 rfl ?_
  refine w_getfield cd_176_148 (show mt_f 12 80 = some (12, 13) by decide +kernel) h14 h15 h17 ?_
  refine w_iload_n cd_176_151 rfl ?_
  refine w_iaload cd_176_152 h19 h20 h21 ?_
  refine w_laload cd_176_153 h23 h24 h25 ?_
  exact w_goto cd_176_154 (by decide) h26
theorem b_176_157 {d : Nat} {Q : (Option Value ⊕ Nat) → mi_H → Prop} (n sl : Nat) (f : Nat → mi_C) {l1 : Nat} {l2 : Int32} (h3 : mi_W d 176 158 [some (.ref l1), some (.int l2)] [.long 0] (n, sl, f) Q) : mi_W d 176 157 [some (.ref l1), some (.int l2)] [] (n, sl, f) Q := by
  refine w_lconst (lv := 0) cd_176_157 (by decide) ?_
  exact h3
theorem b_176_158 {d : Nat} {Q : (Option Value ⊕ Nat) → mi_H → Prop} (n sl : Nat) (f : Nat → mi_C) {l1 : Nat} {l2 : Int32} {s3 : Int64} (h4 : Q (.inl (some (.long s3))) (n, sl, f)) : mi_W d 176 158 [some (.ref l1), some (.int l2)] [.long s3] (n, sl, f) Q := by
  exact w_lreturn cd_176_158 (by decide +kernel) h4
theorem b_176_159 {d : Nat} {Q : (Option Value ⊕ Nat) → mi_H → Prop} (n sl : Nat) (f : Nat → mi_C) {l1 : Nat} {l2 : Int32} {fs3 : List Value} {x6 : Nat} {fs8 : List Value} {x11 : Nat} {fs13 : List Value} {x16 : Nat} (m18 i18 : Nat) (g18 : Nat → Int32) (m22 i22 : Nat) (g22 : Nat → Int32) (h4 : f l1 = .inr (12, fs3)) (h5 : l1 < n) (h7 : fs3[43]? = some (.ref x6)) (h9 : f x6 = .inr (13, fs8)) (h10 : x6 < n) (h12 : fs8[6]? = some (.ref x11)) (h14 : f l1 = .inr (12, fs13)) (h15 : l1 < n) (h17 : fs13[13]? = some (.ref x16)) (h19 : f x16 = .inl (0, m18, .inl g18)) (h20 : x16 < n ∨ x16 = mi_SC) (h21 : mi_ix l2 m18 i18) (h23 : f x11 = .inl (2, m22, .inl g22)) (h24 : x11 < n) (h25 : mi_ix (g18 i18) m22 i22) (h26 : (g22 i22) = (0 : Int32) → mi_W d 176 193 [some (.ref l1), some (.int l2)] [] (n, sl, f) Q) (h27 : ¬ ((g22 i22) = (0 : Int32)) → mi_W d 176 176 [some (.ref l1), some (.int l2)] [] (n, sl, f) Q) : mi_W d 176 159 [some (.ref l1), some (.int l2)] [] (n, sl, f) Q := by
  refine w_aload_n cd_176_159 rfl ?_
  refine w_getfield cd_176_160 (show mt_f 12 445 = some (12, 43) by decide +kernel) h4 h5 h7 ?_
  refine w_getfield cd_176_163 (show mt_f 12 465 = some (13, 6) by decide +kernel) h9 h10 h12 ?_
  refine w_aload_n cd_176_166 rfl ?_
  refine w_getfield cd_176_167 (show mt_f 12 80 = some (12, 13) by decide +kernel) h14 h15 h17 ?_
  refine w_iload_n cd_176_170 rfl ?_
  refine w_iaload cd_176_171 h19 h20 h21 ?_
  refine w_baload2 cd_176_172 h23 h24 h25 ?_
  exact w_ifeq cd_176_173 (by decide) h26 h27
theorem b_176_176 {d : Nat} {Q : (Option Value ⊕ Nat) → mi_H → Prop} (n sl : Nat) (f : Nat → mi_C) {l1 : Nat} {l2 : Int32} {fs3 : List Value} {x6 : Nat} {fs8 : List Value} {x11 : Nat} {fs13 : List Value} {x16 : Nat} (m18 i18 : Nat) (g18 : Nat → Int32) (m22 i22 : Nat) (g22 : Nat → Int64) (h4 : f l1 = .inr (12, fs3)) (h5 : l1 < n) (h7 : fs3[43]? = some (.ref x6)) (h9 : f x6 = .inr (13, fs8)) (h10 : x6 < n) (h12 : fs8[4]? = some (.ref x11)) (h14 : f l1 = .inr (12, fs13)) (h15 : l1 < n) (h17 : fs13[13]? = some (.ref x16)) (h19 : f x16 = .inl (0, m18, .inl g18)) (h20 : x16 < n ∨ x16 = mi_SC) (h21 : mi_ix l2 m18 i18) (h23 : f x11 = .inl (3, m22, .inr (.inl g22))) (h24 : x11 < n) (h25 : mi_ix (g18 i18) m22 i22) (h26 : mi_W d 176 194 [some (.ref l1), some (.int l2)] [.long (g22 i22)] (n, sl, f) Q) : mi_W d 176 176 [some (.ref l1), some (.int l2)] [] (n, sl, f) Q := by
  refine w_aload_n cd_176_176 rfl ?_
  refine w_getfield cd_176_177 (show mt_f 12 445 = some (12, 43) by decide +kernel) h4 h5 h7 ?_
  refine w_getfield cd_176_180 (show mt_f 12 468 = some (13, 4) by decide +kernel) h9 h10 h12 ?_
  refine w_aload_n cd_176_183 rfl ?_
  refine w_getfield cd_176_184 (show mt_f 12 80 = some (12, 13) by decide +kernel) h14 h15 h17 ?_
  refine w_iload_n cd_176_187 rfl ?_
  refine w_iaload cd_176_188 h19 h20 h21 ?_
  refine w_laload cd_176_189 h23 h24 h25 ?_
  exact w_goto cd_176_190 (by decide) h26
theorem b_176_193 {d : Nat} {Q : (Option Value ⊕ Nat) → mi_H → Prop} (n sl : Nat) (f : Nat → mi_C) {l1 : Nat} {l2 : Int32} (h3 : mi_W d 176 194 [some (.ref l1), some (.int l2)] [.long 0] (n, sl, f) Q) : mi_W d 176 193 [some (.ref l1), some (.int l2)] [] (n, sl, f) Q := by
  refine w_lconst (lv := 0) cd_176_193 (by decide) ?_
  exact h3
theorem b_176_194 {d : Nat} {Q : (Option Value ⊕ Nat) → mi_H → Prop} (n sl : Nat) (f : Nat → mi_C) {l1 : Nat} {l2 : Int32} {s3 : Int64} (h4 : Q (.inl (some (.long s3))) (n, sl, f)) : mi_W d 176 194 [some (.ref l1), some (.int l2)] [.long s3] (n, sl, f) Q := by
  exact w_lreturn cd_176_194 (by decide +kernel) h4
theorem b_176_195 {d : Nat} {Q : (Option Value ⊕ Nat) → mi_H → Prop} (n sl : Nat) (f : Nat → mi_C) {l1 : Nat} {l2 : Int32} {fs3 : List Value} {x6 : Int64} {fs8 : List Value} (h4 : f l1 = .inr (12, fs3)) (h5 : l1 < n) (h7 : fs3[44]? = some (.long x6)) (h9 : f l1 = .inr (12, fs8)) (h10 : l1 < n) (h11 : mi_W d 177 0 (mi_en 3 [.ref l1, .long x6]) [] (n, sl, f) (mi_Kc d 176 200 [some (.ref l1), some (.int l2)] [] Q)) : mi_W (d + 1) 176 195 [some (.ref l1), some (.int l2)] [] (n, sl, f) Q := by
  refine w_aload_n cd_176_195 rfl ?_
  refine w_aload_n cd_176_196 rfl ?_
  refine w_getfield cd_176_197 (show mt_f 12 471 = some (12, 44) by decide +kernel) h4 h5 h7 ?_
  exact w_invokevirtual cd_176_200 (show mt_m 12 455 = some (177, 0) by decide +kernel) (rest := []) rfl (as := [.ref l1, .long x6]) rfl h9 (Or.inl h10) ⟨Nat.le_of_ble_eq_true rfl, Nat.le_of_ble_eq_true rfl, Nat.le_of_ble_eq_true rfl⟩ h11
theorem b_176_203 {d : Nat} {Q : (Option Value ⊕ Nat) → mi_H → Prop} (n sl : Nat) (f : Nat → mi_C) {l1 : Nat} {l2 : Int32} {s3 : Int64} (h4 : Q (.inl (some (.long s3))) (n, sl, f)) : mi_W d 176 203 [some (.ref l1), some (.int l2)] [.long s3] (n, sl, f) Q := by
  exact w_lreturn cd_176_203 (by decide +kernel) h4
theorem b_176_204 {d : Nat} {Q : (Option Value ⊕ Nat) → mi_H → Prop} (n sl : Nat) (f : Nat → mi_C) {l1 : Nat} {l2 : Int32} {fs3 : List Value} {x6 : Int64} {fs8 : List Value} (h4 : f l1 = .inr (12, fs3)) (h5 : l1 < n) (h7 : fs3[45]? = some (.long x6)) (h9 : f l1 = .inr (12, fs8)) (h10 : l1 < n) (h11 : mi_W d 177 0 (mi_en 3 [.ref l1, .long x6]) [] (n, sl, f) (mi_Kc d 176 209 [some (.ref l1), some (.int l2)] [] Q)) : mi_W (d + 1) 176 204 [some (.ref l1), some (.int l2)] [] (n, sl, f) Q := by
  refine w_aload_n cd_176_204 rfl ?_
  refine w_aload_n cd_176_205 rfl ?_
  refine w_getfield cd_176_206 (show mt_f 12 474 = some (12, 45) by decide +kernel) h4 h5 h7 ?_
  exact w_invokevirtual cd_176_209 (show mt_m 12 455 = some (177, 0) by decide +kernel) (rest := []) rfl (as := [.ref l1, .long x6]) rfl h9 (Or.inl h10) ⟨Nat.le_of_ble_eq_true rfl, Nat.le_of_ble_eq_true rfl, Nat.le_of_ble_eq_true rfl⟩ h11
theorem b_176_212 {d : Nat} {Q : (Option Value ⊕ Nat) → mi_H → Prop} (n sl : Nat) (f : Nat → mi_C) {l1 : Nat} {l2 : Int32} {s3 : Int64} (h4 : Q (.inl (some (.long s3))) (n, sl, f)) : mi_W d 176 212 [some (.ref l1), some (.int l2)] [.long s3] (n, sl, f) Q := by
  exact w_lreturn cd_176_212 (by decide +kernel) h4
theorem b_176_213 {d : Nat} {Q : (Option Value ⊕ Nat) → mi_H → Prop} (n sl : Nat) (f : Nat → mi_C) {l1 : Nat} {l2 : Int32} {fs3 : List Value} {x6 : Nat} (m8 i8 : Nat) (g8 : Nat → Int32) {fs12 : List Value} (h4 : f l1 = .inr (12, fs3)) (h5 : l1 < n) (h7 : fs3[16]? = some (.ref x6)) (h9 : f x6 = .inl (0, m8, .inl g8)) (h10 : x6 < n ∨ x6 = mi_SC) (h11 : mi_ix l2 m8 i8) (h13 : f l1 = .inr (12, fs12)) (h14 : l1 < n) (h15 : mi_W d 178 0 (mi_en 6 [.ref l1, .int (g8 i8)]) [] (n, sl, f) (mi_Kc d 176 220 [some (.ref l1), some (.int l2)] [] Q)) : mi_W (d + 1) 176 213 [some (.ref l1), some (.int l2)] [] (n, sl, f) Q := by
  refine w_aload_n cd_176_213 rfl ?_
  refine w_aload_n cd_176_214 rfl ?_
  refine w_getfield cd_176_215 (show mt_f 12 89 = some (12, 16) by decide +kernel) h4 h5 h7 ?_
  refine w_iload_n cd_176_218 rfl ?_
  refine w_iaload cd_176_219 h9 h10 h11 ?_
  exact w_invokevirtual cd_176_220 (show mt_m 12 477 = some (178, 0) by decide +kernel) (rest := []) rfl (as := [.ref l1, .int (g8 i8)]) rfl h13 (Or.inl h14) ⟨Nat.le_of_ble_eq_true rfl, Nat.le_of_ble_eq_true rfl, Nat.le_of_ble_eq_true rfl⟩ h15
theorem b_176_223 {d : Nat} {Q : (Option Value ⊕ Nat) → mi_H → Prop} (n sl : Nat) (f : Nat → mi_C) {l1 : Nat} {l2 : Int32} {s3 : Int32} (h4 : s3 = (0 : Int32) → mi_W d 176 239 [some (.ref l1), some (.int l2)] [] (n, sl, f) Q) (h5 : ¬ (s3 = (0 : Int32)) → mi_W d 176 226 [some (.ref l1), some (.int l2)] [] (n, sl, f) Q) : mi_W d 176 223 [some (.ref l1), some (.int l2)] [.int s3] (n, sl, f) Q := by
  exact w_ifeq cd_176_223 (by decide) h4 h5
theorem b_176_226 {d : Nat} {Q : (Option Value ⊕ Nat) → mi_H → Prop} (n sl : Nat) (f : Nat → mi_C) {l1 : Nat} {l2 : Int32} {fs3 : List Value} {x6 : Nat} (m8 i8 : Nat) (g8 : Nat → Int32) {fs12 : List Value} (h4 : f l1 = .inr (12, fs3)) (h5 : l1 < n) (h7 : fs3[13]? = some (.ref x6)) (h9 : f x6 = .inl (0, m8, .inl g8)) (h10 : x6 < n ∨ x6 = mi_SC) (h11 : mi_ix l2 m8 i8) (h13 : f l1 = .inr (12, fs12)) (h14 : l1 < n) (h15 : mi_W d 176 0 (mi_en 2 [.ref l1, .int (g8 i8)]) [] (n, sl, f) (mi_Kc d 176 233 [some (.ref l1), some (.int l2)] [] Q)) : mi_W (d + 1) 176 226 [some (.ref l1), some (.int l2)] [] (n, sl, f) Q := by
  refine w_aload_n cd_176_226 rfl ?_
  refine w_aload_n cd_176_227 rfl ?_
  refine w_getfield cd_176_228 (show mt_f 12 80 = some (12, 13) by decide +kernel) h4 h5 h7 ?_
  refine w_iload_n cd_176_231 rfl ?_
  refine w_iaload cd_176_232 h9 h10 h11 ?_
  exact w_invokevirtual cd_176_233 (show mt_m 12 451 = some (176, 0) by decide +kernel) (rest := []) rfl (as := [.ref l1, .int (g8 i8)]) rfl h13 (Or.inl h14) ⟨Nat.le_of_ble_eq_true rfl, Nat.le_of_ble_eq_true rfl, Nat.le_of_ble_eq_true rfl⟩ h15
theorem b_176_236 {d : Nat} {Q : (Option Value ⊕ Nat) → mi_H → Prop} (n sl : Nat) (f : Nat → mi_C) {l1 : Nat} {l2 : Int32} {s3 : Int64} (h4 : mi_W d 176 249 [some (.ref l1), some (.int l2)] [.long s3] (n, sl, f) Q) : mi_W d 176 236 [some (.ref l1), some (.int l2)] [.long s3] (n, sl, f) Q := by
  exact w_goto cd_176_236 (by decide) h4
theorem b_176_239 {d : Nat} {Q : (Option Value ⊕ Nat) → mi_H → Prop} (n sl : Nat) (f : Nat → mi_C) {l1 : Nat} {l2 : Int32} {fs3 : List Value} {x6 : Nat} (m8 i8 : Nat) (g8 : Nat → Int32) {fs12 : List Value} (h4 : f l1 = .inr (12, fs3)) (h5 : l1 < n) (h7 : fs3[14]? = some (.ref x6)) (h9 : f x6 = .inl (0, m8, .inl g8)) (h10 : x6 < n ∨ x6 = mi_SC) (h11 : mi_ix l2 m8 i8) (h13 : f l1 = .inr (12, fs12)) (h14 : l1 < n) (h15 : mi_W d 176 0 (mi_en 2 [.ref l1, .int (g8 i8)]) [] (n, sl, f) (mi_Kc d 176 246 [some (.ref l1), some (.int l2)] [] Q)) : mi_W (d + 1) 176 239 [some (.ref l1), some (.int l2)] [] (n, sl, f) Q := by
  refine w_aload_n cd_176_239 rfl ?_
  refine w_aload_n cd_176_240 rfl ?_
  refine w_getfield cd_176_241 (show mt_f 12 83 = some (12, 14) by decide +kernel) h4 h5 h7 ?_
  refine w_iload_n cd_176_244 rfl ?_
  refine w_iaload cd_176_245 h9 h10 h11 ?_
  exact w_invokevirtual cd_176_246 (show mt_m 12 451 = some (176, 0) by decide +kernel) (rest := []) rfl (as := [.ref l1, .int (g8 i8)]) rfl h13 (Or.inl h14) ⟨Nat.le_of_ble_eq_true rfl, Nat.le_of_ble_eq_true rfl, Nat.le_of_ble_eq_true rfl⟩ h15
theorem b_176_249 {d : Nat} {Q : (Option Value ⊕ Nat) → mi_H → Prop} (n sl : Nat) (f : Nat → mi_C) {l1 : Nat} {l2 : Int32} {s3 : Int64} (h4 : Q (.inl (some (.long s3))) (n, sl, f)) : mi_W d 176 249 [some (.ref l1), some (.int l2)] [.long s3] (n, sl, f) Q := by
  exact w_lreturn cd_176_249 (by decide +kernel) h4
theorem b_176_250 {d : Nat} {Q : (Option Value ⊕ Nat) → mi_H → Prop} (n sl : Nat) (f : Nat → mi_C) {l1 : Nat} {l2 : Int32} {fs3 : List Value} {x6 : Nat} (m8 i8 : Nat) (g8 : Nat → Int32) {fs12 : List Value} {x15 : Nat} (m17 i17 : Nat) (g17 : Nat → Int32) {fs21 : List Value} (h4 : f l1 = .inr (12, fs3)) (h5 : l1 < n) (h7 : fs3[12]? = some (.ref x6)) (h9 : f x6 = .inl (0, m8, .inl g8)) (h10 : x6 < n ∨ x6 = mi_SC) (h11 : mi_ix l2 m8 i8) (h13 : f l1 = .inr (12, fs12)) (h14 : l1 < n) (h16 : fs12[13]? = some (.ref x15)) (h18 : f x15 = .inl (0, m17, .inl g17)) (h19 : x15 < n ∨ x15 = mi_SC) (h20 : mi_ix l2 m17 i17) (h22 : f l1 = .inr (12, fs21)) (h23 : l1 < n) (h24 : mi_W d 176 0 (mi_en 2 [.ref l1, .int (g17 i17)]) [] (n, sl, f) (mi_Kc d 176 264 [some (.ref l1), some (.int l2)] [.int (g8 i8), .ref l1] Q)) : mi_W (d + 1) 176 250 [some (.ref l1), some (.int l2)] [] (n, sl, f) Q := by
  refine w_aload_n cd_176_250 rfl ?_
  refine w_aload_n cd_176_251 rfl ?_
  refine w_getfield cd_176_252 (show mt_f 12 77 = some (12, 12) by decide +kernel) h4 h5 h7 ?_
  refine w_iload_n cd_176_255 rfl ?_
  refine w_iaload cd_176_256 h9 h10 h11 ?_
  refine w_aload_n cd_176_257 rfl ?_
  refine w_aload_n cd_176_258 rfl ?_
  refine w_getfield cd_176_259 (show mt_f 12 80 = some (12, 13) by decide +kernel) h13 h14 h16 ?_
  refine w_iload_n cd_176_262 rfl ?_
  refine w_iaload cd_176_263 h18 h19 h20 ?_
  exact w_invokevirtual cd_176_264 (show mt_m 12 451 = some (176, 0) by decide +kernel) (rest := [.int (g8 i8), .ref l1]) rfl (as := [.ref l1, .int (g17 i17)]) rfl h22 (Or.inl h23) ⟨Nat.le_of_ble_eq_true rfl, Nat.le_of_ble_eq_true rfl, Nat.le_of_ble_eq_true rfl⟩ h24
theorem b_176_267 {d : Nat} {Q : (Option Value ⊕ Nat) → mi_H → Prop} (n sl : Nat) (f : Nat → mi_C) {l1 : Nat} {l2 : Int32} {s3 : Int64} {s4 : Int32} {s5 : Nat} {fs6 : List Value} {x9 : Nat} (m11 i11 : Nat) (g11 : Nat → Int32) {fs15 : List Value} (h7 : f l1 = .inr (12, fs6)) (h8 : l1 < n) (h10 : fs6[14]? = some (.ref x9)) (h12 : f x9 = .inl (0, m11, .inl g11)) (h13 : x9 < n ∨ x9 = mi_SC) (h14 : mi_ix l2 m11 i11) (h16 : f l1 = .inr (12, fs15)) (h17 : l1 < n) (h18 : mi_W d 176 0 (mi_en 2 [.ref l1, .int (g11 i11)]) [] (n, sl, f) (mi_Kc d 176 274 [some (.ref l1), some (.int l2)] [.long s3, .int s4, .ref s5] Q)) : mi_W (d + 1) 176 267 [some (.ref l1), some (.int l2)] [.long s3, .int s4, .ref s5] (n, sl, f) Q := by
  refine w_aload_n cd_176_267 rfl ?_
  refine w_aload_n cd_176_268 rfl ?_
  refine w_getfield cd_176_269 (show mt_f 12 83 = some (12, 14) by decide +kernel) h7 h8 h10 ?_
  refine w_iload_n cd_176_272 rfl ?_
  refine w_iaload cd_176_273 h12 h13 h14 ?_
  exact w_invokevirtual cd_176_274 (show mt_m 12 451 = some (176, 0) by decide +kernel) (rest := [.long s3, .int s4, .ref s5]) rfl (as := [.ref l1, .int (g11 i11)]) rfl h16 (Or.inl h17) ⟨Nat.le_of_ble_eq_true rfl, Nat.le_of_ble_eq_true rfl, Nat.le_of_ble_eq_true rfl⟩ h18
theorem b_176_277 {d : Nat} {Q : (Option Value ⊕ Nat) → mi_H → Prop} (n sl : Nat) (f : Nat → mi_C) {l1 : Nat} {l2 : Int32} {s3 : Int64} {s4 : Int64} {s5 : Int32} {s6 : Nat} {fs7 : List Value} (h8 : f s6 = .inr (12, fs7)) (h9 : s6 < n) (h10 : mi_W d 179 0 (mi_en 9 [.ref s6, .int s5, .long s4, .long s3]) [] (n, sl, f) (mi_Kc d 176 277 [some (.ref l1), some (.int l2)] [] Q)) : mi_W (d + 1) 176 277 [some (.ref l1), some (.int l2)] [.long s3, .long s4, .int s5, .ref s6] (n, sl, f) Q := by
  exact w_invokevirtual cd_176_277 (show mt_m 12 480 = some (179, 0) by decide +kernel) (rest := []) rfl (as := [.ref s6, .int s5, .long s4, .long s3]) rfl h8 (Or.inl h9) ⟨Nat.le_of_ble_eq_true rfl, Nat.le_of_ble_eq_true rfl, Nat.le_of_ble_eq_true rfl⟩ h10
theorem b_176_280 {d : Nat} {Q : (Option Value ⊕ Nat) → mi_H → Prop} (n sl : Nat) (f : Nat → mi_C) {l1 : Nat} {l2 : Int32} {s3 : Int64} (h4 : Q (.inl (some (.long s3))) (n, sl, f)) : mi_W d 176 280 [some (.ref l1), some (.int l2)] [.long s3] (n, sl, f) Q := by
  exact w_lreturn cd_176_280 (by decide +kernel) h4
/-! MarloweHostModel.fit(J)J -/
theorem cd_177_0 : mt_cd 177 0 = some (.lload_n 1) := by decide +kernel
theorem cd_177_1 : mt_cd 177 1 = some (.ldc2_w 437) := by decide +kernel
theorem cd_177_4 : mt_cd 177 4 = some (.lcmp) := by decide +kernel
theorem cd_177_5 : mt_cd 177 5 = some (.ifCond .gt 11) := by decide +kernel
theorem cd_177_8 : mt_cd 177 8 = some (.lload_n 1) := by decide +kernel
theorem cd_177_9 : mt_cd 177 9 = some (.ldc2_w 439) := by decide +kernel
theorem cd_177_12 : mt_cd 177 12 = some (.lcmp) := by decide +kernel
theorem cd_177_13 : mt_cd 177 13 = some (.ifCond .ge 8) := by decide +kernel
theorem cd_177_16 : mt_cd 177 16 = some (.aload_n 0) := by decide +kernel
theorem cd_177_17 : mt_cd 177 17 = some (.iconst 1) := by decide +kernel
theorem cd_177_18 : mt_cd 177 18 = some (.putfield 441) := by decide +kernel
theorem cd_177_21 : mt_cd 177 21 = some (.lload_n 1) := by decide +kernel
theorem cd_177_22 : mt_cd 177 22 = some (.lreturn) := by decide +kernel
theorem b_177_0 {d : Nat} {Q : (Option Value ⊕ Nat) → mi_H → Prop} (n sl : Nat) (f : Nat → mi_C) {l1 : Nat} {l2 : Int64} (h3 : (0 : Int32) < (lg_cmp l2 4611686018427387904) → mi_W d 177 16 [some (.ref l1), some (.long l2), none] [] (n, sl, f) Q) (h4 : ¬ ((0 : Int32) < (lg_cmp l2 4611686018427387904)) → mi_W d 177 8 [some (.ref l1), some (.long l2), none] [] (n, sl, f) Q) : mi_W d 177 0 [some (.ref l1), some (.long l2), none] [] (n, sl, f) Q := by
  refine w_lload_n cd_177_0 rfl ?_
  refine w_ldc2_w (lv := 4611686018427387904) cd_177_1 (by decide +kernel) ?_
  refine w_lcmp cd_177_4 ?_
  exact w_ifgt cd_177_5 (by decide) h3 h4
theorem b_177_8 {d : Nat} {Q : (Option Value ⊕ Nat) → mi_H → Prop} (n sl : Nat) (f : Nat → mi_C) {l1 : Nat} {l2 : Int64} (h3 : (0 : Int32) ≤ (lg_cmp l2 ((-4611686018427387904))) → mi_W d 177 21 [some (.ref l1), some (.long l2), none] [] (n, sl, f) Q) (h4 : ¬ ((0 : Int32) ≤ (lg_cmp l2 ((-4611686018427387904)))) → mi_W d 177 16 [some (.ref l1), some (.long l2), none] [] (n, sl, f) Q) : mi_W d 177 8 [some (.ref l1), some (.long l2), none] [] (n, sl, f) Q := by
  refine w_lload_n cd_177_8 rfl ?_
  refine w_ldc2_w (lv := (-4611686018427387904)) cd_177_9 (by decide +kernel) ?_
  refine w_lcmp cd_177_12 ?_
  exact w_ifge cd_177_13 (by decide) h3 h4
theorem b_177_16 {d : Nat} {Q : (Option Value ⊕ Nat) → mi_H → Prop} (n sl : Nat) (f : Nat → mi_C) {l1 : Nat} {l2 : Int64} {fs3 : List Value} (h4 : f l1 = .inr (12, fs3)) (h5 : l1 < n) (h6 : 46 < fs3.length) (h7 : mi_fk .boolean (.int 1) = true) (h8 : mi_W d 177 21 [some (.ref l1), some (.long l2), none] [] (n, sl, (va_up f l1 (.inr (12, fs3.set 46 (.int 1))))) Q) : mi_W d 177 16 [some (.ref l1), some (.long l2), none] [] (n, sl, f) Q := by
  refine w_aload_n cd_177_16 rfl ?_
  refine w_iconst (v := 1) cd_177_17 (by decide) ?_
  refine w_putfield (w := .int 1) cd_177_18 (show mt_f 12 441 = some (12, 46) by decide +kernel) h4 h5 ⟨h6, h7, Or.inl (by decide)⟩ ?_
  exact h8
theorem b_177_21 {d : Nat} {Q : (Option Value ⊕ Nat) → mi_H → Prop} (n sl : Nat) (f : Nat → mi_C) {l1 : Nat} {l2 : Int64} (h3 : Q (.inl (some (.long l2))) (n, sl, f)) : mi_W d 177 21 [some (.ref l1), some (.long l2), none] [] (n, sl, f) Q := by
  refine w_lload_n cd_177_21 rfl ?_
  exact w_lreturn cd_177_22 (by decide +kernel) h3
/-! MarloweHostModel.holds(I)Z -/
theorem cd_178_0 : mt_cd 178 0 = some (.aload_n 0) := by decide +kernel
theorem cd_178_1 : mt_cd 178 1 = some (.getfield 441) := by decide +kernel
theorem cd_178_4 : mt_cd 178 4 = some (.ifCond .eq 5) := by decide +kernel
theorem cd_178_7 : mt_cd 178 7 = some (.iconst 0) := by decide +kernel
theorem cd_178_8 : mt_cd 178 8 = some (.ireturn) := by decide +kernel
theorem cd_178_9 : mt_cd 178 9 = some (.aload_n 0) := by decide +kernel
theorem cd_178_10 : mt_cd 178 10 = some (.getfield 77) := by decide +kernel
theorem cd_178_13 : mt_cd 178 13 = some (.iload_n 1) := by decide +kernel
theorem cd_178_14 : mt_cd 178 14 = some (.iaload) := by decide +kernel
theorem cd_178_15 : mt_cd 178 15 = some (.tableswitch 147 22 27 #[37, 39, 41, 77, 113, 132]) := by decide +kernel
theorem cd_178_52 : mt_cd 178 52 = some (.iconst 1) := by decide +kernel
theorem cd_178_53 : mt_cd 178 53 = some (.ireturn) := by decide +kernel
theorem cd_178_54 : mt_cd 178 54 = some (.iconst 0) := by decide +kernel
theorem cd_178_55 : mt_cd 178 55 = some (.ireturn) := by decide +kernel
theorem cd_178_56 : mt_cd 178 56 = some (.aload_n 0) := by decide +kernel
theorem cd_178_57 : mt_cd 178 57 = some (.aload_n 0) := by decide +kernel
theorem cd_178_58 : mt_cd 178 58 = some (.getfield 80) := by decide +kernel
theorem cd_178_61 : mt_cd 178 61 = some (.iload_n 1) := by decide +kernel
theorem cd_178_62 : mt_cd 178 62 = some (.iaload) := by decide +kernel
theorem cd_178_63 : mt_cd 178 63 = some (.invokevirtual 477) := by decide +kernel
theorem cd_178_66 : mt_cd 178 66 = some (.istore_n 2) := by decide +kernel
theorem cd_178_67 : mt_cd 178 67 = some (.aload_n 0) := by decide +kernel
theorem cd_178_68 : mt_cd 178 68 = some (.aload_n 0) := by decide +kernel
theorem cd_178_69 : mt_cd 178 69 = some (.getfield 83) := by decide +kernel
theorem cd_178_72 : mt_cd 178 72 = some (.iload_n 1) := by decide +kernel
theorem cd_178_73 : mt_cd 178 73 = some (.iaload) := by decide +kernel
theorem cd_178_74 : mt_cd 178 74 = some (.invokevirtual 477) := by decide +kernel
theorem cd_178_77 : mt_cd 178 77 = some (.istore_n 3) := by decide +kernel
theorem cd_178_78 : mt_cd 178 78 = some (.iload_n 2) := by decide +kernel
theorem cd_178_79 : mt_cd 178 79 = some (.ifCond .eq 11) := by decide +kernel
theorem cd_178_82 : mt_cd 178 82 = some (.iload_n 3) := by decide +kernel
theorem cd_178_83 : mt_cd 178 83 = some (.ifCond .eq 7) := by decide +kernel
theorem cd_178_86 : mt_cd 178 86 = some (.iconst 1) := by decide +kernel
theorem cd_178_87 : mt_cd 178 87 = some (.goto 4) := by decide +kernel
theorem cd_178_90 : mt_cd 178 90 = some (.iconst 0) := by decide +kernel
theorem cd_178_91 : mt_cd 178 91 = some (.ireturn) := by decide +kernel
theorem cd_178_92 : mt_cd 178 92 = some (.aload_n 0) := by decide +kernel
theorem cd_178_93 : mt_cd 178 93 = some (.aload_n 0) := by decide +kernel
theorem cd_178_94 : mt_cd 178 94 = some (.getfield 80) := by decide +kernel
theorem cd_178_97 : mt_cd 178 97 = some (.iload_n 1) := by decide +kernel
theorem cd_178_98 : mt_cd 178 98 = some (.iaload) := by decide +kernel
theorem cd_178_99 : mt_cd 178 99 = some (.invokevirtual 477) := by decide +kernel
theorem cd_178_102 : mt_cd 178 102 = some (.istore_n 2) := by decide +kernel
theorem cd_178_103 : mt_cd 178 103 = some (.aload_n 0) := by decide +kernel
theorem cd_178_104 : mt_cd 178 104 = some (.aload_n 0) := by decide +kernel
theorem cd_178_105 : mt_cd 178 105 = some (.getfield 83) := by decide +kernel
theorem cd_178_108 : mt_cd 178 108 = some (.iload_n 1) := by decide +kernel
theorem cd_178_109 : mt_cd 178 109 = some (.iaload) := by decide +kernel
theorem cd_178_110 : mt_cd 178 110 = some (.invokevirtual 477) := by decide +kernel
theorem cd_178_113 : mt_cd 178 113 = some (.istore_n 3) := by decide +kernel
theorem cd_178_114 : mt_cd 178 114 = some (.iload_n 2) := by decide +kernel
theorem cd_178_115 : mt_cd 178 115 = some (.ifCond .ne 7) := by decide +kernel
theorem cd_178_118 : mt_cd 178 118 = some (.iload_n 3) := by decide +kernel
theorem cd_178_119 : mt_cd 178 119 = some (.ifCond .eq 7) := by decide +kernel
theorem cd_178_122 : mt_cd 178 122 = some (.iconst 1) := by decide +kernel
theorem cd_178_123 : mt_cd 178 123 = some (.goto 4) := by decide +kernel
theorem cd_178_126 : mt_cd 178 126 = some (.iconst 0) := by decide +kernel
theorem cd_178_127 : mt_cd 178 127 = some (.ireturn) := by decide +kernel
theorem cd_178_128 : mt_cd 178 128 = some (.aload_n 0) := by decide +kernel
theorem cd_178_129 : mt_cd 178 129 = some (.aload_n 0) := by decide +kernel
theorem cd_178_130 : mt_cd 178 130 = some (.getfield 80) := by decide +kernel
theorem cd_178_133 : mt_cd 178 133 = some (.iload_n 1) := by decide +kernel
theorem cd_178_134 : mt_cd 178 134 = some (.iaload) := by decide +kernel
theorem cd_178_135 : mt_cd 178 135 = some (.invokevirtual 477) := by decide +kernel
theorem cd_178_138 : mt_cd 178 138 = some (.ifCond .ne 7) := by decide +kernel
theorem cd_178_141 : mt_cd 178 141 = some (.iconst 1) := by decide +kernel
theorem cd_178_142 : mt_cd 178 142 = some (.goto 4) := by decide +kernel
theorem cd_178_145 : mt_cd 178 145 = some (.iconst 0) := by decide +kernel
theorem cd_178_146 : mt_cd 178 146 = some (.ireturn) := by decide +kernel
theorem cd_178_147 : mt_cd 178 147 = some (.aload_n 0) := by decide +kernel
theorem cd_178_148 : mt_cd 178 148 = some (.getfield 445) := by decide +kernel
theorem cd_178_151 : mt_cd 178 151 = some (.getfield 459) := by decide +kernel
theorem cd_178_154 : mt_cd 178 154 = some (.aload_n 0) := by decide +kernel
theorem cd_178_155 : mt_cd 178 155 = some (.getfield 80) := by decide +kernel
theorem cd_178_158 : mt_cd 178 158 = some (.iload_n 1) := by decide +kernel
theorem cd_178_159 : mt_cd 178 159 = some (.iaload) := by decide +kernel
theorem cd_178_160 : mt_cd 178 160 = some (.baload) := by decide +kernel
theorem cd_178_161 : mt_cd 178 161 = some (.ireturn) := by decide +kernel
theorem cd_178_162 : mt_cd 178 162 = some (.aload_n 0) := by decide +kernel
theorem cd_178_163 : mt_cd 178 163 = some (.aload_n 0) := by decide +kernel
theorem cd_178_164 : mt_cd 178 164 = some (.getfield 80) := by decide +kernel
theorem cd_178_167 : mt_cd 178 167 = some (.iload_n 1) := by decide +kernel
theorem cd_178_168 : mt_cd 178 168 = some (.iaload) := by decide +kernel
theorem cd_178_169 : mt_cd 178 169 = some (.invokevirtual 451) := by decide +kernel
theorem cd_178_172 : mt_cd 178 172 = some (.lstore_n 2) := by decide +kernel
theorem cd_178_173 : mt_cd 178 173 = some (.aload_n 0) := by decide +kernel
theorem cd_178_174 : mt_cd 178 174 = some (.aload_n 0) := by decide +kernel
theorem cd_178_175 : mt_cd 178 175 = some (.getfield 83) := by decide +kernel
theorem cd_178_178 : mt_cd 178 178 = some (.iload_n 1) := by decide +kernel
theorem cd_178_179 : mt_cd 178 179 = some (.iaload) := by decide +kernel
theorem cd_178_180 : mt_cd 178 180 = some (.invokevirtual 451) := by decide +kernel
theorem cd_178_183 : mt_cd 178 183 = some (.lstore 4) := by decide +kernel
theorem cd_178_185 : mt_cd 178 185 = some (.aload_n 0) := by decide +kernel
theorem cd_178_186 : mt_cd 178 186 = some (.getfield 77) := by decide +kernel
theorem cd_178_189 : mt_cd 178 189 = some (.iload_n 1) := by decide +kernel
theorem cd_178_190 : mt_cd 178 190 = some (.iaload) := by decide +kernel
theorem cd_178_191 : mt_cd 178 191 = some (.bipush 28) := by decide +kernel
theorem cd_178_193 : mt_cd 178 193 = some (.if_icmp .ne 18) := by decide +kernel
theorem cd_178_196 : mt_cd 178 196 = some (.lload_n 2) := by decide +kernel
theorem cd_178_197 : mt_cd 178 197 = some (.lload 4) := by decide +kernel
theorem cd_178_199 : mt_cd 178 199 = some (.lcmp) := by decide +kernel
theorem cd_178_200 : mt_cd 178 200 = some (.ifCond .lt 7) := by decide +kernel
theorem cd_178_203 : mt_cd 178 203 = some (.iconst 1) := by decide +kernel
theorem cd_178_204 : mt_cd 178 204 = some (.goto 97) := by decide +kernel
theorem cd_178_207 : mt_cd 178 207 = some (.iconst 0) := by decide +kernel
theorem cd_178_208 : mt_cd 178 208 = some (.goto 93) := by decide +kernel
theorem cd_178_211 : mt_cd 178 211 = some (.aload_n 0) := by decide +kernel
theorem cd_178_212 : mt_cd 178 212 = some (.getfield 77) := by decide +kernel
theorem cd_178_215 : mt_cd 178 215 = some (.iload_n 1) := by decide +kernel
theorem cd_178_216 : mt_cd 178 216 = some (.iaload) := by decide +kernel
theorem cd_178_217 : mt_cd 178 217 = some (.bipush 29) := by decide +kernel
theorem cd_178_219 : mt_cd 178 219 = some (.if_icmp .ne 18) := by decide +kernel
theorem cd_178_222 : mt_cd 178 222 = some (.lload_n 2) := by decide +kernel
theorem cd_178_223 : mt_cd 178 223 = some (.lload 4) := by decide +kernel
theorem cd_178_225 : mt_cd 178 225 = some (.lcmp) := by decide +kernel
theorem cd_178_226 : mt_cd 178 226 = some (.ifCond .le 7) := by decide +kernel
theorem cd_178_229 : mt_cd 178 229 = some (.iconst 1) := by decide +kernel
theorem cd_178_230 : mt_cd 178 230 = some (.goto 71) := by decide +kernel
theorem cd_178_233 : mt_cd 178 233 = some (.iconst 0) := by decide +kernel
theorem cd_178_234 : mt_cd 178 234 = some (.goto 67) := by decide +kernel
theorem cd_178_237 : mt_cd 178 237 = some (.aload_n 0) := by decide +kernel
theorem cd_178_238 : mt_cd 178 238 = some (.getfield 77) := by decide +kernel
theorem cd_178_241 : mt_cd 178 241 = some (.iload_n 1) := by decide +kernel
theorem cd_178_242 : mt_cd 178 242 = some (.iaload) := by decide +kernel
theorem cd_178_243 : mt_cd 178 243 = some (.bipush 30) := by decide +kernel
theorem cd_178_245 : mt_cd 178 245 = some (.if_icmp .ne 18) := by decide +kernel
theorem cd_178_248 : mt_cd 178 248 = some (.lload_n 2) := by decide +kernel
theorem cd_178_249 : mt_cd 178 249 = some (.lload 4) := by decide +kernel
theorem cd_178_251 : mt_cd 178 251 = some (.lcmp) := by decide +kernel
theorem cd_178_252 : mt_cd 178 252 = some (.ifCond .gt 7) := by decide +kernel
theorem cd_178_255 : mt_cd 178 255 = some (.iconst 1) := by decide +kernel
theorem cd_178_256 : mt_cd 178 256 = some (.goto 45) := by decide +kernel
theorem cd_178_259 : mt_cd 178 259 = some (.iconst 0) := by decide +kernel
theorem cd_178_260 : mt_cd 178 260 = some (.goto 41) := by decide +kernel
theorem cd_178_263 : mt_cd 178 263 = some (.aload_n 0) := by decide +kernel
theorem cd_178_264 : mt_cd 178 264 = some (.getfield 77) := by decide +kernel
theorem cd_178_267 : mt_cd 178 267 = some (.iload_n 1) := by decide +kernel
theorem cd_178_268 : mt_cd 178 268 = some (.iaload) := by decide +kernel
theorem cd_178_269 : mt_cd 178 269 = some (.bipush 31) := by decide +kernel
theorem cd_178_271 : mt_cd 178 271 = some (.if_icmp .ne 18) := by decide +kernel
theorem cd_178_274 : mt_cd 178 274 = some (.lload_n 2) := by decide +kernel
theorem cd_178_275 : mt_cd 178 275 = some (.lload 4) := by decide +kernel
theorem cd_178_277 : mt_cd 178 277 = some (.lcmp) := by decide +kernel
theorem cd_178_278 : mt_cd 178 278 = some (.ifCond .ge 7) := by decide +kernel
theorem cd_178_281 : mt_cd 178 281 = some (.iconst 1) := by decide +kernel
theorem cd_178_282 : mt_cd 178 282 = some (.goto 19) := by decide +kernel
theorem cd_178_285 : mt_cd 178 285 = some (.iconst 0) := by decide +kernel
theorem cd_178_286 : mt_cd 178 286 = some (.goto 15) := by decide +kernel
theorem cd_178_289 : mt_cd 178 289 = some (.lload_n 2) := by decide +kernel
theorem cd_178_290 : mt_cd 178 290 = some (.lload 4) := by decide +kernel
theorem cd_178_292 : mt_cd 178 292 = some (.lcmp) := by decide +kernel
theorem cd_178_293 : mt_cd 178 293 = some (.ifCond .ne 7) := by decide +kernel
theorem cd_178_296 : mt_cd 178 296 = some (.iconst 1) := by decide +kernel
theorem cd_178_297 : mt_cd 178 297 = some (.goto 4) := by decide +kernel
theorem cd_178_300 : mt_cd 178 300 = some (.iconst 0) := by decide +kernel
theorem cd_178_301 : mt_cd 178 301 = some (.ireturn) := by decide +kernel
theorem b_178_0 {d : Nat} {Q : (Option Value ⊕ Nat) → mi_H → Prop} (n sl : Nat) (f : Nat → mi_C) {l1 : Nat} {l2 : Int32} {o3 : Option Value} {o4 : Option Value} {o5 : Option Value} {o6 : Option Value} {fs7 : List Value} {x10 : Int32} (h8 : f l1 = .inr (12, fs7)) (h9 : l1 < n) (h11 : fs7[46]? = some (.int x10)) (h12 : x10 = (0 : Int32) → mi_W d 178 9 [some (.ref l1), some (.int l2), o3, o4, o5, o6] [] (n, sl, f) Q) (h13 : ¬ (x10 = (0 : Int32)) → mi_W d 178 7 [some (.ref l1), some (.int l2), o3, o4, o5, o6] [] (n, sl, f) Q) : mi_W d 178 0 [some (.ref l1), some (.int l2), o3, o4, o5, o6] [] (n, sl, f) Q := by
  refine w_aload_n cd_178_0 rfl ?_
  refine w_getfield cd_178_1 (show mt_f 12 441 = some (12, 46) by decide +kernel) h8 h9 h11 ?_
  exact w_ifeq cd_178_4 (by decide) h12 h13
theorem b_178_7 {d : Nat} {Q : (Option Value ⊕ Nat) → mi_H → Prop} (n sl : Nat) (f : Nat → mi_C) {l1 : Nat} {l2 : Int32} {o3 : Option Value} {o4 : Option Value} {o5 : Option Value} {o6 : Option Value} (h7 : Q (.inl (some (.int 0))) (n, sl, f)) : mi_W d 178 7 [some (.ref l1), some (.int l2), o3, o4, o5, o6] [] (n, sl, f) Q := by
  refine w_iconst (v := 0) cd_178_7 (by decide) ?_
  exact w_ireturn_z cd_178_8 (by decide +kernel) (by decide) h7
theorem b_178_9 {d : Nat} {Q : (Option Value ⊕ Nat) → mi_H → Prop} (n sl : Nat) (f : Nat → mi_C) {l1 : Nat} {l2 : Int32} {o3 : Option Value} {o4 : Option Value} {o5 : Option Value} {o6 : Option Value} {fs7 : List Value} {x10 : Nat} (m12 i12 : Nat) (g12 : Nat → Int32) {t16 : Nat} (h8 : f l1 = .inr (12, fs7)) (h9 : l1 < n) (h11 : fs7[12]? = some (.ref x10)) (h13 : f x10 = .inl (0, m12, .inl g12)) (h14 : x10 < n ∨ x10 = mi_SC) (h15 : mi_ix l2 m12 i12) (h17 : mi_ts 15 147 22 27 #[37, 39, 41, 77, 113, 132] ((g12 i12) : Int32).toInt = some t16) (h18 : mi_W d 178 t16 [some (.ref l1), some (.int l2), o3, o4, o5, o6] [] (n, sl, f) Q) : mi_W d 178 9 [some (.ref l1), some (.int l2), o3, o4, o5, o6] [] (n, sl, f) Q := by
  refine w_aload_n cd_178_9 rfl ?_
  refine w_getfield cd_178_10 (show mt_f 12 77 = some (12, 12) by decide +kernel) h8 h9 h11 ?_
  refine w_iload_n cd_178_13 rfl ?_
  refine w_iaload cd_178_14 h13 h14 h15 ?_
  exact w_tableswitch cd_178_15 h17 h18
theorem b_178_52 {d : Nat} {Q : (Option Value ⊕ Nat) → mi_H → Prop} (n sl : Nat) (f : Nat → mi_C) {l1 : Nat} {l2 : Int32} {o3 : Option Value} {o4 : Option Value} {o5 : Option Value} {o6 : Option Value} (h7 : Q (.inl (some (.int 1))) (n, sl, f)) : mi_W d 178 52 [some (.ref l1), some (.int l2), o3, o4, o5, o6] [] (n, sl, f) Q := by
  refine w_iconst (v := 1) cd_178_52 (by decide) ?_
  exact w_ireturn_z cd_178_53 (by decide +kernel) (by decide) h7
theorem b_178_54 {d : Nat} {Q : (Option Value ⊕ Nat) → mi_H → Prop} (n sl : Nat) (f : Nat → mi_C) {l1 : Nat} {l2 : Int32} {o3 : Option Value} {o4 : Option Value} {o5 : Option Value} {o6 : Option Value} (h7 : Q (.inl (some (.int 0))) (n, sl, f)) : mi_W d 178 54 [some (.ref l1), some (.int l2), o3, o4, o5, o6] [] (n, sl, f) Q := by
  refine w_iconst (v := 0) cd_178_54 (by decide) ?_
  exact w_ireturn_z cd_178_55 (by decide +kernel) (by decide) h7
theorem b_178_56 {d : Nat} {Q : (Option Value ⊕ Nat) → mi_H → Prop} (n sl : Nat) (f : Nat → mi_C) {l1 : Nat} {l2 : Int32} {o3 : Option Value} {o4 : Option Value} {o5 : Option Value} {o6 : Option Value} {fs7 : List Value} {x10 : Nat} (m12 i12 : Nat) (g12 : Nat → Int32) {fs16 : List Value} (h8 : f l1 = .inr (12, fs7)) (h9 : l1 < n) (h11 : fs7[13]? = some (.ref x10)) (h13 : f x10 = .inl (0, m12, .inl g12)) (h14 : x10 < n ∨ x10 = mi_SC) (h15 : mi_ix l2 m12 i12) (h17 : f l1 = .inr (12, fs16)) (h18 : l1 < n) (h19 : mi_W d 178 0 (mi_en 6 [.ref l1, .int (g12 i12)]) [] (n, sl, f) (mi_Kc d 178 63 [some (.ref l1), some (.int l2), o3, o4, o5, o6] [] Q)) : mi_W (d + 1) 178 56 [some (.ref l1), some (.int l2), o3, o4, o5, o6] [] (n, sl, f) Q := by
  refine w_aload_n cd_178_56 rfl ?_
  refine w_aload_n cd_178_57 rfl ?_
  refine w_getfield cd_178_58 (show mt_f 12 80 = some (12, 13) by decide +kernel) h8 h9 h11 ?_
  refine w_iload_n cd_178_61 rfl ?_
  refine w_iaload cd_178_62 h13 h14 h15 ?_
  exact w_invokevirtual cd_178_63 (show mt_m 12 477 = some (178, 0) by decide +kernel) (rest := []) rfl (as := [.ref l1, .int (g12 i12)]) rfl h17 (Or.inl h18) ⟨Nat.le_of_ble_eq_true rfl, Nat.le_of_ble_eq_true rfl, Nat.le_of_ble_eq_true rfl⟩ h19
theorem b_178_66 {d : Nat} {Q : (Option Value ⊕ Nat) → mi_H → Prop} (n sl : Nat) (f : Nat → mi_C) {l1 : Nat} {l2 : Int32} {o3 : Option Value} {o4 : Option Value} {o5 : Option Value} {o6 : Option Value} {s7 : Int32} {fs8 : List Value} {x11 : Nat} (m13 i13 : Nat) (g13 : Nat → Int32) {fs17 : List Value} (h9 : f l1 = .inr (12, fs8)) (h10 : l1 < n) (h12 : fs8[14]? = some (.ref x11)) (h14 : f x11 = .inl (0, m13, .inl g13)) (h15 : x11 < n ∨ x11 = mi_SC) (h16 : mi_ix l2 m13 i13) (h18 : f l1 = .inr (12, fs17)) (h19 : l1 < n) (h20 : mi_W d 178 0 (mi_en 6 [.ref l1, .int (g13 i13)]) [] (n, sl, f) (mi_Kc d 178 74 [some (.ref l1), some (.int l2), some (.int s7), o4, o5, o6] [] Q)) : mi_W (d + 1) 178 66 [some (.ref l1), some (.int l2), o3, o4, o5, o6] [.int s7] (n, sl, f) Q := by
  refine w_istore_n (ls' := [some (.ref l1), some (.int l2), some (.int s7), o4, o5, o6]) cd_178_66 (Nat.le_of_ble_eq_true rfl) rfl ?_
  refine w_aload_n cd_178_67 rfl ?_
  refine w_aload_n cd_178_68 rfl ?_
  refine w_getfield cd_178_69 (show mt_f 12 83 = some (12, 14) by decide +kernel) h9 h10 h12 ?_
  refine w_iload_n cd_178_72 rfl ?_
  refine w_iaload cd_178_73 h14 h15 h16 ?_
  exact w_invokevirtual cd_178_74 (show mt_m 12 477 = some (178, 0) by decide +kernel) (rest := []) rfl (as := [.ref l1, .int (g13 i13)]) rfl h18 (Or.inl h19) ⟨Nat.le_of_ble_eq_true rfl, Nat.le_of_ble_eq_true rfl, Nat.le_of_ble_eq_true rfl⟩ h20
theorem b_178_77 {d : Nat} {Q : (Option Value ⊕ Nat) → mi_H → Prop} (n sl : Nat) (f : Nat → mi_C) {l1 : Nat} {l2 : Int32} {l3 : Int32} {o4 : Option Value} {o5 : Option Value} {o6 : Option Value} {s7 : Int32} (h8 : l3 = (0 : Int32) → mi_W d 178 90 [some (.ref l1), some (.int l2), some (.int l3), some (.int s7), o5, o6] [] (n, sl, f) Q) (h9 : ¬ (l3 = (0 : Int32)) → mi_W d 178 82 [some (.ref l1), some (.int l2), some (.int l3), some (.int s7), o5, o6] [] (n, sl, f) Q) : mi_W d 178 77 [some (.ref l1), some (.int l2), some (.int l3), o4, o5, o6] [.int s7] (n, sl, f) Q := by
  refine w_istore_n (ls' := [some (.ref l1), some (.int l2), some (.int l3), some (.int s7), o5, o6]) cd_178_77 (Nat.le_of_ble_eq_true rfl) rfl ?_
  refine w_iload_n cd_178_78 rfl ?_
  exact w_ifeq cd_178_79 (by decide) h8 h9
theorem b_178_82 {d : Nat} {Q : (Option Value ⊕ Nat) → mi_H → Prop} (n sl : Nat) (f : Nat → mi_C) {l1 : Nat} {l2 : Int32} {l3 : Int32} {l4 : Int32} {o5 : Option Value} {o6 : Option Value} (h7 : l4 = (0 : Int32) → mi_W d 178 90 [some (.ref l1), some (.int l2), some (.int l3), some (.int l4), o5, o6] [] (n, sl, f) Q) (h8 : ¬ (l4 = (0 : Int32)) → mi_W d 178 86 [some (.ref l1), some (.int l2), some (.int l3), some (.int l4), o5, o6] [] (n, sl, f) Q) : mi_W d 178 82 [some (.ref l1), some (.int l2), some (.int l3), some (.int l4), o5, o6] [] (n, sl, f) Q := by
  refine w_iload_n cd_178_82 rfl ?_
  exact w_ifeq cd_178_83 (by decide) h7 h8
theorem b_178_86 {d : Nat} {Q : (Option Value ⊕ Nat) → mi_H → Prop} (n sl : Nat) (f : Nat → mi_C) {l1 : Nat} {l2 : Int32} {l3 : Int32} {l4 : Int32} {o5 : Option Value} {o6 : Option Value} (h7 : mi_W d 178 91 [some (.ref l1), some (.int l2), some (.int l3), some (.int l4), o5, o6] [.int 1] (n, sl, f) Q) : mi_W d 178 86 [some (.ref l1), some (.int l2), some (.int l3), some (.int l4), o5, o6] [] (n, sl, f) Q := by
  refine w_iconst (v := 1) cd_178_86 (by decide) ?_
  exact w_goto cd_178_87 (by decide) h7
theorem b_178_90 {d : Nat} {Q : (Option Value ⊕ Nat) → mi_H → Prop} (n sl : Nat) (f : Nat → mi_C) {l1 : Nat} {l2 : Int32} {l3 : Int32} {l4 : Int32} {o5 : Option Value} {o6 : Option Value} (h7 : mi_W d 178 91 [some (.ref l1), some (.int l2), some (.int l3), some (.int l4), o5, o6] [.int 0] (n, sl, f) Q) : mi_W d 178 90 [some (.ref l1), some (.int l2), some (.int l3), some (.int l4), o5, o6] [] (n, sl, f) Q := by
  refine w_iconst (v := 0) cd_178_90 (by decide) ?_
  exact h7
theorem b_178_91 {d : Nat} {Q : (Option Value ⊕ Nat) → mi_H → Prop} (n sl : Nat) (f : Nat → mi_C) {l1 : Nat} {l2 : Int32} {l3 : Int32} {l4 : Int32} {o5 : Option Value} {o6 : Option Value} {s7 : Int32} (h8 : s7 = 0 ∨ s7 = 1) (h9 : Q (.inl (some (.int s7))) (n, sl, f)) : mi_W d 178 91 [some (.ref l1), some (.int l2), some (.int l3), some (.int l4), o5, o6] [.int s7] (n, sl, f) Q := by
  exact w_ireturn_z cd_178_91 (by decide +kernel) h8 h9
theorem b_178_92 {d : Nat} {Q : (Option Value ⊕ Nat) → mi_H → Prop} (n sl : Nat) (f : Nat → mi_C) {l1 : Nat} {l2 : Int32} {o3 : Option Value} {o4 : Option Value} {o5 : Option Value} {o6 : Option Value} {fs7 : List Value} {x10 : Nat} (m12 i12 : Nat) (g12 : Nat → Int32) {fs16 : List Value} (h8 : f l1 = .inr (12, fs7)) (h9 : l1 < n) (h11 : fs7[13]? = some (.ref x10)) (h13 : f x10 = .inl (0, m12, .inl g12)) (h14 : x10 < n ∨ x10 = mi_SC) (h15 : mi_ix l2 m12 i12) (h17 : f l1 = .inr (12, fs16)) (h18 : l1 < n) (h19 : mi_W d 178 0 (mi_en 6 [.ref l1, .int (g12 i12)]) [] (n, sl, f) (mi_Kc d 178 99 [some (.ref l1), some (.int l2), o3, o4, o5, o6] [] Q)) : mi_W (d + 1) 178 92 [some (.ref l1), some (.int l2), o3, o4, o5, o6] [] (n, sl, f) Q := by
  refine w_aload_n cd_178_92 rfl ?_
  refine w_aload_n cd_178_93 rfl ?_
  refine w_getfield cd_178_94 (show mt_f 12 80 = some (12, 13) by decide +kernel) h8 h9 h11 ?_
  refine w_iload_n cd_178_97 rfl ?_
  refine w_iaload cd_178_98 h13 h14 h15 ?_
  exact w_invokevirtual cd_178_99 (show mt_m 12 477 = some (178, 0) by decide +kernel) (rest := []) rfl (as := [.ref l1, .int (g12 i12)]) rfl h17 (Or.inl h18) ⟨Nat.le_of_ble_eq_true rfl, Nat.le_of_ble_eq_true rfl, Nat.le_of_ble_eq_true rfl⟩ h19
theorem b_178_102 {d : Nat} {Q : (Option Value ⊕ Nat) → mi_H → Prop} (n sl : Nat) (f : Nat → mi_C) {l1 : Nat} {l2 : Int32} {o3 : Option Value} {o4 : Option Value} {o5 : Option Value} {o6 : Option Value} {s7 : Int32} {fs8 : List Value} {x11 : Nat} (m13 i13 : Nat) (g13 : Nat → Int32) {fs17 : List Value} (h9 : f l1 = .inr (12, fs8)) (h10 : l1 < n) (h12 : fs8[14]? = some (.ref x11)) (h14 : f x11 = .inl (0, m13, .inl g13)) (h15 : x11 < n ∨ x11 = mi_SC) (h16 : mi_ix l2 m13 i13) (h18 : f l1 = .inr (12, fs17)) (h19 : l1 < n) (h20 : mi_W d 178 0 (mi_en 6 [.ref l1, .int (g13 i13)]) [] (n, sl, f) (mi_Kc d 178 110 [some (.ref l1), some (.int l2), some (.int s7), o4, o5, o6] [] Q)) : mi_W (d + 1) 178 102 [some (.ref l1), some (.int l2), o3, o4, o5, o6] [.int s7] (n, sl, f) Q := by
  refine w_istore_n (ls' := [some (.ref l1), some (.int l2), some (.int s7), o4, o5, o6]) cd_178_102 (Nat.le_of_ble_eq_true rfl) rfl ?_
  refine w_aload_n cd_178_103 rfl ?_
  refine w_aload_n cd_178_104 rfl ?_
  refine w_getfield cd_178_105 (show mt_f 12 83 = some (12, 14) by decide +kernel) h9 h10 h12 ?_
  refine w_iload_n cd_178_108 rfl ?_
  refine w_iaload cd_178_109 h14 h15 h16 ?_
  exact w_invokevirtual cd_178_110 (show mt_m 12 477 = some (178, 0) by decide +kernel) (rest := []) rfl (as := [.ref l1, .int (g13 i13)]) rfl h18 (Or.inl h19) ⟨Nat.le_of_ble_eq_true rfl, Nat.le_of_ble_eq_true rfl, Nat.le_of_ble_eq_true rfl⟩ h20
theorem b_178_113 {d : Nat} {Q : (Option Value ⊕ Nat) → mi_H → Prop} (n sl : Nat) (f : Nat → mi_C) {l1 : Nat} {l2 : Int32} {l3 : Int32} {o4 : Option Value} {o5 : Option Value} {o6 : Option Value} {s7 : Int32} (h8 : ¬ l3 = (0 : Int32) → mi_W d 178 122 [some (.ref l1), some (.int l2), some (.int l3), some (.int s7), o5, o6] [] (n, sl, f) Q) (h9 : ¬ (¬ l3 = (0 : Int32)) → mi_W d 178 118 [some (.ref l1), some (.int l2), some (.int l3), some (.int s7), o5, o6] [] (n, sl, f) Q) : mi_W d 178 113 [some (.ref l1), some (.int l2), some (.int l3), o4, o5, o6] [.int s7] (n, sl, f) Q := by
  refine w_istore_n (ls' := [some (.ref l1), some (.int l2), some (.int l3), some (.int s7), o5, o6]) cd_178_113 (Nat.le_of_ble_eq_true rfl) rfl ?_
  refine w_iload_n cd_178_114 rfl ?_
  exact w_ifne cd_178_115 (by decide) h8 h9
theorem b_178_118 {d : Nat} {Q : (Option Value ⊕ Nat) → mi_H → Prop} (n sl : Nat) (f : Nat → mi_C) {l1 : Nat} {l2 : Int32} {l3 : Int32} {l4 : Int32} {o5 : Option Value} {o6 : Option Value} (h7 : l4 = (0 : Int32) → mi_W d 178 126 [some (.ref l1), some (.int l2), some (.int l3), some (.int l4), o5, o6] [] (n, sl, f) Q) (h8 : ¬ (l4 = (0 : Int32)) → mi_W d 178 122 [some (.ref l1), some (.int l2), some (.int l3), some (.int l4), o5, o6] [] (n, sl, f) Q) : mi_W d 178 118 [some (.ref l1), some (.int l2), some (.int l3), some (.int l4), o5, o6] [] (n, sl, f) Q := by
  refine w_iload_n cd_178_118 rfl ?_
  exact w_ifeq cd_178_119 (by decide) h7 h8
theorem b_178_122 {d : Nat} {Q : (Option Value ⊕ Nat) → mi_H → Prop} (n sl : Nat) (f : Nat → mi_C) {l1 : Nat} {l2 : Int32} {l3 : Int32} {l4 : Int32} {o5 : Option Value} {o6 : Option Value} (h7 : mi_W d 178 127 [some (.ref l1), some (.int l2), some (.int l3), some (.int l4), o5, o6] [.int 1] (n, sl, f) Q) : mi_W d 178 122 [some (.ref l1), some (.int l2), some (.int l3), some (.int l4), o5, o6] [] (n, sl, f) Q := by
  refine w_iconst (v := 1) cd_178_122 (by decide) ?_
  exact w_goto cd_178_123 (by decide) h7
theorem b_178_126 {d : Nat} {Q : (Option Value ⊕ Nat) → mi_H → Prop} (n sl : Nat) (f : Nat → mi_C) {l1 : Nat} {l2 : Int32} {l3 : Int32} {l4 : Int32} {o5 : Option Value} {o6 : Option Value} (h7 : mi_W d 178 127 [some (.ref l1), some (.int l2), some (.int l3), some (.int l4), o5, o6] [.int 0] (n, sl, f) Q) : mi_W d 178 126 [some (.ref l1), some (.int l2), some (.int l3), some (.int l4), o5, o6] [] (n, sl, f) Q := by
  refine w_iconst (v := 0) cd_178_126 (by decide) ?_
  exact h7
theorem b_178_127 {d : Nat} {Q : (Option Value ⊕ Nat) → mi_H → Prop} (n sl : Nat) (f : Nat → mi_C) {l1 : Nat} {l2 : Int32} {l3 : Int32} {l4 : Int32} {o5 : Option Value} {o6 : Option Value} {s7 : Int32} (h8 : s7 = 0 ∨ s7 = 1) (h9 : Q (.inl (some (.int s7))) (n, sl, f)) : mi_W d 178 127 [some (.ref l1), some (.int l2), some (.int l3), some (.int l4), o5, o6] [.int s7] (n, sl, f) Q := by
  exact w_ireturn_z cd_178_127 (by decide +kernel) h8 h9
theorem b_178_128 {d : Nat} {Q : (Option Value ⊕ Nat) → mi_H → Prop} (n sl : Nat) (f : Nat → mi_C) {l1 : Nat} {l2 : Int32} {o3 : Option Value} {o4 : Option Value} {o5 : Option Value} {o6 : Option Value} {fs7 : List Value} {x10 : Nat} (m12 i12 : Nat) (g12 : Nat → Int32) {fs16 : List Value} (h8 : f l1 = .inr (12, fs7)) (h9 : l1 < n) (h11 : fs7[13]? = some (.ref x10)) (h13 : f x10 = .inl (0, m12, .inl g12)) (h14 : x10 < n ∨ x10 = mi_SC) (h15 : mi_ix l2 m12 i12) (h17 : f l1 = .inr (12, fs16)) (h18 : l1 < n) (h19 : mi_W d 178 0 (mi_en 6 [.ref l1, .int (g12 i12)]) [] (n, sl, f) (mi_Kc d 178 135 [some (.ref l1), some (.int l2), o3, o4, o5, o6] [] Q)) : mi_W (d + 1) 178 128 [some (.ref l1), some (.int l2), o3, o4, o5, o6] [] (n, sl, f) Q := by
  refine w_aload_n cd_178_128 rfl ?_
  refine w_aload_n cd_178_129 rfl ?_
  refine w_getfield cd_178_130 (show mt_f 12 80 = some (12, 13) by decide +kernel) h8 h9 h11 ?_
  refine w_iload_n cd_178_133 rfl ?_
  refine w_iaload cd_178_134 h13 h14 h15 ?_
  exact w_invokevirtual cd_178_135 (show mt_m 12 477 = some (178, 0) by decide +kernel) (rest := []) rfl (as := [.ref l1, .int (g12 i12)]) rfl h17 (Or.inl h18) ⟨Nat.le_of_ble_eq_true rfl, Nat.le_of_ble_eq_true rfl, Nat.le_of_ble_eq_true rfl⟩ h19
theorem b_178_138 {d : Nat} {Q : (Option Value ⊕ Nat) → mi_H → Prop} (n sl : Nat) (f : Nat → mi_C) {l1 : Nat} {l2 : Int32} {o3 : Option Value} {o4 : Option Value} {o5 : Option Value} {o6 : Option Value} {s7 : Int32} (h8 : ¬ s7 = (0 : Int32) → mi_W d 178 145 [some (.ref l1), some (.int l2), o3, o4, o5, o6] [] (n, sl, f) Q) (h9 : ¬ (¬ s7 = (0 : Int32)) → mi_W d 178 141 [some (.ref l1), some (.int l2), o3, o4, o5, o6] [] (n, sl, f) Q) : mi_W d 178 138 [some (.ref l1), some (.int l2), o3, o4, o5, o6] [.int s7] (n, sl, f) Q := by
  exact w_ifne cd_178_138 (by decide) h8 h9
theorem b_178_141 {d : Nat} {Q : (Option Value ⊕ Nat) → mi_H → Prop} (n sl : Nat) (f : Nat → mi_C) {l1 : Nat} {l2 : Int32} {o3 : Option Value} {o4 : Option Value} {o5 : Option Value} {o6 : Option Value} (h7 : mi_W d 178 146 [some (.ref l1), some (.int l2), o3, o4, o5, o6] [.int 1] (n, sl, f) Q) : mi_W d 178 141 [some (.ref l1), some (.int l2), o3, o4, o5, o6] [] (n, sl, f) Q := by
  refine w_iconst (v := 1) cd_178_141 (by decide) ?_
  exact w_goto cd_178_142 (by decide) h7
theorem b_178_145 {d : Nat} {Q : (Option Value ⊕ Nat) → mi_H → Prop} (n sl : Nat) (f : Nat → mi_C) {l1 : Nat} {l2 : Int32} {o3 : Option Value} {o4 : Option Value} {o5 : Option Value} {o6 : Option Value} (h7 : mi_W d 178 146 [some (.ref l1), some (.int l2), o3, o4, o5, o6] [.int 0] (n, sl, f) Q) : mi_W d 178 145 [some (.ref l1), some (.int l2), o3, o4, o5, o6] [] (n, sl, f) Q := by
  refine w_iconst (v := 0) cd_178_145 (by decide) ?_
  exact h7
theorem b_178_146 {d : Nat} {Q : (Option Value ⊕ Nat) → mi_H → Prop} (n sl : Nat) (f : Nat → mi_C) {l1 : Nat} {l2 : Int32} {o3 : Option Value} {o4 : Option Value} {o5 : Option Value} {o6 : Option Value} {s7 : Int32} (h8 : s7 = 0 ∨ s7 = 1) (h9 : Q (.inl (some (.int s7))) (n, sl, f)) : mi_W d 178 146 [some (.ref l1), some (.int l2), o3, o4, o5, o6] [.int s7] (n, sl, f) Q := by
  exact w_ireturn_z cd_178_146 (by decide +kernel) h8 h9
theorem b_178_147 {d : Nat} {Q : (Option Value ⊕ Nat) → mi_H → Prop} (n sl : Nat) (f : Nat → mi_C) {l1 : Nat} {l2 : Int32} {o3 : Option Value} {o4 : Option Value} {o5 : Option Value} {o6 : Option Value} {fs7 : List Value} {x10 : Nat} {fs12 : List Value} {x15 : Nat} {fs17 : List Value} {x20 : Nat} (m22 i22 : Nat) (g22 : Nat → Int32) (m26 i26 : Nat) (g26 : Nat → Int32) (h8 : f l1 = .inr (12, fs7)) (h9 : l1 < n) (h11 : fs7[43]? = some (.ref x10)) (h13 : f x10 = .inr (13, fs12)) (h14 : x10 < n) (h16 : fs12[5]? = some (.ref x15)) (h18 : f l1 = .inr (12, fs17)) (h19 : l1 < n) (h21 : fs17[13]? = some (.ref x20)) (h23 : f x20 = .inl (0, m22, .inl g22)) (h24 : x20 < n ∨ x20 = mi_SC) (h25 : mi_ix l2 m22 i22) (h27 : f x15 = .inl (2, m26, .inl g26)) (h28 : x15 < n) (h29 : mi_ix (g22 i22) m26 i26) (h30 : (g26 i26) = 0 ∨ (g26 i26) = 1) (h31 : Q (.inl (some (.int (g26 i26)))) (n, sl, f)) : mi_W d 178 147 [some (.ref l1), some (.int l2), o3, o4, o5, o6] [] (n, sl, f) Q := by
  refine w_aload_n cd_178_147 rfl ?_
  refine w_getfield cd_178_148 (show mt_f 12 445 = some (12, 43) by decide +kernel) h8 h9 h11 ?_
  refine w_getfield cd_178_151 (show mt_f 12 459 = some (13, 5) by decide +kernel) h13 h14 h16 ?_
  refine w_aload_n cd_178_154 rfl ?_
  refine w_getfield cd_178_155 (show mt_f 12 80 = some (12, 13) by decide +kernel) h18 h19 h21 ?_
  refine w_iload_n cd_178_158 rfl ?_
  refine w_iaload cd_178_159 h23 h24 h25 ?_
  refine w_baload2 cd_178_160 h27 h28 h29 ?_
  exact w_ireturn_z cd_178_161 (by decide +kernel) h30 h31
theorem b_178_162 {d : Nat} {Q : (Option Value ⊕ Nat) → mi_H → Prop} (n sl : Nat) (f : Nat → mi_C) {l1 : Nat} {l2 : Int32} {o3 : Option Value} {o4 : Option Value} {o5 : Option Value} {o6 : Option Value} {fs7 : List Value} {x10 : Nat} (m12 i12 : Nat) (g12 : Nat → Int32) {fs16 : List Value} (h8 : f l1 = .inr (12, fs7)) (h9 : l1 < n) (h11 : fs7[13]? = some (.ref x10)) (h13 : f x10 = .inl (0, m12, .inl g12)) (h14 : x10 < n ∨ x10 = mi_SC) (h15 : mi_ix l2 m12 i12) (h17 : f l1 = .inr (12, fs16)) (h18 : l1 < n) (h19 : mi_W d 176 0 (mi_en 2 [.ref l1, .int (g12 i12)]) [] (n, sl, f) (mi_Kc d 178 169 [some (.ref l1), some (.int l2), o3, o4, o5, o6] [] Q)) : mi_W (d + 1) 178 162 [some (.ref l1), some (.int l2), o3, o4, o5, o6] [] (n, sl, f) Q := by
  refine w_aload_n cd_178_162 rfl ?_
  refine w_aload_n cd_178_163 rfl ?_
  refine w_getfield cd_178_164 (show mt_f 12 80 = some (12, 13) by decide +kernel) h8 h9 h11 ?_
  refine w_iload_n cd_178_167 rfl ?_
  refine w_iaload cd_178_168 h13 h14 h15 ?_
  exact w_invokevirtual cd_178_169 (show mt_m 12 451 = some (176, 0) by decide +kernel) (rest := []) rfl (as := [.ref l1, .int (g12 i12)]) rfl h17 (Or.inl h18) ⟨Nat.le_of_ble_eq_true rfl, Nat.le_of_ble_eq_true rfl, Nat.le_of_ble_eq_true rfl⟩ h19
theorem b_178_172 {d : Nat} {Q : (Option Value ⊕ Nat) → mi_H → Prop} (n sl : Nat) (f : Nat → mi_C) {l1 : Nat} {l2 : Int32} {o3 : Option Value} {o4 : Option Value} {o5 : Option Value} {o6 : Option Value} {s7 : Int64} {fs8 : List Value} {x11 : Nat} (m13 i13 : Nat) (g13 : Nat → Int32) {fs17 : List Value} (h9 : f l1 = .inr (12, fs8)) (h10 : l1 < n) (h12 : fs8[14]? = some (.ref x11)) (h14 : f x11 = .inl (0, m13, .inl g13)) (h15 : x11 < n ∨ x11 = mi_SC) (h16 : mi_ix l2 m13 i13) (h18 : f l1 = .inr (12, fs17)) (h19 : l1 < n) (h20 : mi_W d 176 0 (mi_en 2 [.ref l1, .int (g13 i13)]) [] (n, sl, f) (mi_Kc d 178 180 [some (.ref l1), some (.int l2), some (.long s7), none, o5, o6] [] Q)) : mi_W (d + 1) 178 172 [some (.ref l1), some (.int l2), o3, o4, o5, o6] [.long s7] (n, sl, f) Q := by
  refine w_lstore_n (ls' := [some (.ref l1), some (.int l2), some (.long s7), none, o5, o6]) cd_178_172 (Nat.le_of_ble_eq_true rfl) rfl ?_
  refine w_aload_n cd_178_173 rfl ?_
  refine w_aload_n cd_178_174 rfl ?_
  refine w_getfield cd_178_175 (show mt_f 12 83 = some (12, 14) by decide +kernel) h9 h10 h12 ?_
  refine w_iload_n cd_178_178 rfl ?_
  refine w_iaload cd_178_179 h14 h15 h16 ?_
  exact w_invokevirtual cd_178_180 (show mt_m 12 451 = some (176, 0) by decide +kernel) (rest := []) rfl (as := [.ref l1, .int (g13 i13)]) rfl h18 (Or.inl h19) ⟨Nat.le_of_ble_eq_true rfl, Nat.le_of_ble_eq_true rfl, Nat.le_of_ble_eq_true rfl⟩ h20
theorem b_178_183 {d : Nat} {Q : (Option Value ⊕ Nat) → mi_H → Prop} (n sl : Nat) (f : Nat → mi_C) {l1 : Nat} {l2 : Int32} {l3 : Int64} {o4 : Option Value} {o5 : Option Value} {s6 : Int64} {fs7 : List Value} {x10 : Nat} (m12 i12 : Nat) (g12 : Nat → Int32) (h8 : f l1 = .inr (12, fs7)) (h9 : l1 < n) (h11 : fs7[12]? = some (.ref x10)) (h13 : f x10 = .inl (0, m12, .inl g12)) (h14 : x10 < n ∨ x10 = mi_SC) (h15 : mi_ix l2 m12 i12) (h16 : ¬ (g12 i12) = 28 → mi_W d 178 211 [some (.ref l1), some (.int l2), some (.long l3), none, some (.long s6), none] [] (n, sl, f) Q) (h17 : ¬ (¬ (g12 i12) = 28) → mi_W d 178 196 [some (.ref l1), some (.int l2), some (.long l3), none, some (.long s6), none] [] (n, sl, f) Q) : mi_W d 178 183 [some (.ref l1), some (.int l2), some (.long l3), none, o4, o5] [.long s6] (n, sl, f) Q := by
  refine w_lstore (ls' := [some (.ref l1), some (.int l2), some (.long l3), none, some (.long s6), none]) cd_178_183 (Nat.le_of_ble_eq_true rfl) rfl ?_
  refine w_aload_n cd_178_185 rfl ?_
  refine w_getfield cd_178_186 (show mt_f 12 77 = some (12, 12) by decide +kernel) h8 h9 h11 ?_
  refine w_iload_n cd_178_189 rfl ?_
  refine w_iaload cd_178_190 h13 h14 h15 ?_
  refine w_bipush (v := 28) cd_178_191 (by decide) ?_
  exact w_if_icmpne cd_178_193 (by decide) h16 h17
theorem b_178_196 {d : Nat} {Q : (Option Value ⊕ Nat) → mi_H → Prop} (n sl : Nat) (f : Nat → mi_C) {l1 : Nat} {l2 : Int32} {l3 : Int64} {l4 : Int64} (h5 : (lg_cmp l3 l4) < (0 : Int32) → mi_W d 178 207 [some (.ref l1), some (.int l2), some (.long l3), none, some (.long l4), none] [] (n, sl, f) Q) (h6 : ¬ ((lg_cmp l3 l4) < (0 : Int32)) → mi_W d 178 203 [some (.ref l1), some (.int l2), some (.long l3), none, some (.long l4), none] [] (n, sl, f) Q) : mi_W d 178 196 [some (.ref l1), some (.int l2), some (.long l3), none, some (.long l4), none] [] (n, sl, f) Q := by
  refine w_lload_n cd_178_196 rfl ?_
  refine w_lload cd_178_197 rfl ?_
  refine w_lcmp cd_178_199 ?_
  exact w_iflt cd_178_200 (by decide) h5 h6
theorem b_178_203 {d : Nat} {Q : (Option Value ⊕ Nat) → mi_H → Prop} (n sl : Nat) (f : Nat → mi_C) {l1 : Nat} {l2 : Int32} {l3 : Int64} {l4 : Int64} (h5 : mi_W d 178 301 [some (.ref l1), some (.int l2), some (.long l3), none, some (.long l4), none] [.int 1] (n, sl, f) Q) : mi_W d 178 203 [some (.ref l1), some (.int l2), some (.long l3), none, some (.long l4), none] [] (n, sl, f) Q := by
  refine w_iconst (v := 1) cd_178_203 (by decide) ?_
  exact w_goto cd_178_204 (by decide) h5
theorem b_178_207 {d : Nat} {Q : (Option Value ⊕ Nat) → mi_H → Prop} (n sl : Nat) (f : Nat → mi_C) {l1 : Nat} {l2 : Int32} {l3 : Int64} {l4 : Int64} (h5 : mi_W d 178 301 [some (.ref l1), some (.int l2), some (.long l3), none, some (.long l4), none] [.int 0] (n, sl, f) Q) : mi_W d 178 207 [some (.ref l1), some (.int l2), some (.long l3), none, some (.long l4), none] [] (n, sl, f) Q := by
  refine w_iconst (v := 0) cd_178_207 (by decide) ?_
  exact w_goto cd_178_208 (by decide) h5
theorem b_178_211 {d : Nat} {Q : (Option Value ⊕ Nat) → mi_H → Prop} (n sl : Nat) (f : Nat → mi_C) {l1 : Nat} {l2 : Int32} {l3 : Int64} {l4 : Int64} {fs5 : List Value} {x8 : Nat} (m10 i10 : Nat) (g10 : Nat → Int32) (h6 : f l1 = .inr (12, fs5)) (h7 : l1 < n) (h9 : fs5[12]? = some (.ref x8)) (h11 : f x8 = .inl (0, m10, .inl g10)) (h12 : x8 < n ∨ x8 = mi_SC) (h13 : mi_ix l2 m10 i10) (h14 : ¬ (g10 i10) = 29 → mi_W d 178 237 [some (.ref l1), some (.int l2), some (.long l3), none, some (.long l4), none] [] (n, sl, f) Q) (h15 : ¬ (¬ (g10 i10) = 29) → mi_W d 178 222 [some (.ref l1), some (.int l2), some (.long l3), none, some (.long l4), none] [] (n, sl, f) Q) : mi_W d 178 211 [some (.ref l1), some (.int l2), some (.long l3), none, some (.long l4), none] [] (n, sl, f) Q := by
  refine w_aload_n cd_178_211 rfl ?_
  refine w_getfield cd_178_212 (show mt_f 12 77 = some (12, 12) by decide +kernel) h6 h7 h9 ?_
  refine w_iload_n cd_178_215 rfl ?_
  refine w_iaload cd_178_216 h11 h12 h13 ?_
  refine w_bipush (v := 29) cd_178_217 (by decide) ?_
  exact w_if_icmpne cd_178_219 (by decide) h14 h15
theorem b_178_222 {d : Nat} {Q : (Option Value ⊕ Nat) → mi_H → Prop} (n sl : Nat) (f : Nat → mi_C) {l1 : Nat} {l2 : Int32} {l3 : Int64} {l4 : Int64} (h5 : (lg_cmp l3 l4) ≤ (0 : Int32) → mi_W d 178 233 [some (.ref l1), some (.int l2), some (.long l3), none, some (.long l4), none] [] (n, sl, f) Q) (h6 : ¬ ((lg_cmp l3 l4) ≤ (0 : Int32)) → mi_W d 178 229 [some (.ref l1), some (.int l2), some (.long l3), none, some (.long l4), none] [] (n, sl, f) Q) : mi_W d 178 222 [some (.ref l1), some (.int l2), some (.long l3), none, some (.long l4), none] [] (n, sl, f) Q := by
  refine w_lload_n cd_178_222 rfl ?_
  refine w_lload cd_178_223 rfl ?_
  refine w_lcmp cd_178_225 ?_
  exact w_ifle cd_178_226 (by decide) h5 h6
theorem b_178_229 {d : Nat} {Q : (Option Value ⊕ Nat) → mi_H → Prop} (n sl : Nat) (f : Nat → mi_C) {l1 : Nat} {l2 : Int32} {l3 : Int64} {l4 : Int64} (h5 : mi_W d 178 301 [some (.ref l1), some (.int l2), some (.long l3), none, some (.long l4), none] [.int 1] (n, sl, f) Q) : mi_W d 178 229 [some (.ref l1), some (.int l2), some (.long l3), none, some (.long l4), none] [] (n, sl, f) Q := by
  refine w_iconst (v := 1) cd_178_229 (by decide) ?_
  exact w_goto cd_178_230 (by decide) h5
theorem b_178_233 {d : Nat} {Q : (Option Value ⊕ Nat) → mi_H → Prop} (n sl : Nat) (f : Nat → mi_C) {l1 : Nat} {l2 : Int32} {l3 : Int64} {l4 : Int64} (h5 : mi_W d 178 301 [some (.ref l1), some (.int l2), some (.long l3), none, some (.long l4), none] [.int 0] (n, sl, f) Q) : mi_W d 178 233 [some (.ref l1), some (.int l2), some (.long l3), none, some (.long l4), none] [] (n, sl, f) Q := by
  refine w_iconst (v := 0) cd_178_233 (by decide) ?_
  exact w_goto cd_178_234 (by decide) h5
theorem b_178_237 {d : Nat} {Q : (Option Value ⊕ Nat) → mi_H → Prop} (n sl : Nat) (f : Nat → mi_C) {l1 : Nat} {l2 : Int32} {l3 : Int64} {l4 : Int64} {fs5 : List Value} {x8 : Nat} (m10 i10 : Nat) (g10 : Nat → Int32) (h6 : f l1 = .inr (12, fs5)) (h7 : l1 < n) (h9 : fs5[12]? = some (.ref x8)) (h11 : f x8 = .inl (0, m10, .inl g10)) (h12 : x8 < n ∨ x8 = mi_SC) (h13 : mi_ix l2 m10 i10) (h14 : ¬ (g10 i10) = 30 → mi_W d 178 263 [some (.ref l1), some (.int l2), some (.long l3), none, some (.long l4), none] [] (n, sl, f) Q) (h15 : ¬ (¬ (g10 i10) = 30) → mi_W d 178 248 [some (.ref l1), some (.int l2), some (.long l3), none, some (.long l4), none] [] (n, sl, f) Q) : mi_W d 178 237 [some (.ref l1), some (.int l2), some (.long l3), none, some (.long l4), none] [] (n, sl, f) Q := by
  refine w_aload_n cd_178_237 rfl ?_
  refine w_getfield cd_178_238 (show mt_f 12 77 = some (12, 12) by decide +kernel) h6 h7 h9 ?_
  refine w_iload_n cd_178_241 rfl ?_
  refine w_iaload cd_178_242 h11 h12 h13 ?_
  refine w_bipush (v := 30) cd_178_243 (by decide) ?_
  exact w_if_icmpne cd_178_245 (by decide) h14 h15
theorem b_178_248 {d : Nat} {Q : (Option Value ⊕ Nat) → mi_H → Prop} (n sl : Nat) (f : Nat → mi_C) {l1 : Nat} {l2 : Int32} {l3 : Int64} {l4 : Int64} (h5 : (0 : Int32) < (lg_cmp l3 l4) → mi_W d 178 259 [some (.ref l1), some (.int l2), some (.long l3), none, some (.long l4), none] [] (n, sl, f) Q) (h6 : ¬ ((0 : Int32) < (lg_cmp l3 l4)) → mi_W d 178 255 [some (.ref l1), some (.int l2), some (.long l3), none, some (.long l4), none] [] (n, sl, f) Q) : mi_W d 178 248 [some (.ref l1), some (.int l2), some (.long l3), none, some (.long l4), none] [] (n, sl, f) Q := by
  refine w_lload_n cd_178_248 rfl ?_
  refine w_lload cd_178_249 rfl ?_
  refine w_lcmp cd_178_251 ?_
  exact w_ifgt cd_178_252 (by decide) h5 h6
theorem b_178_255 {d : Nat} {Q : (Option Value ⊕ Nat) → mi_H → Prop} (n sl : Nat) (f : Nat → mi_C) {l1 : Nat} {l2 : Int32} {l3 : Int64} {l4 : Int64} (h5 : mi_W d 178 301 [some (.ref l1), some (.int l2), some (.long l3), none, some (.long l4), none] [.int 1] (n, sl, f) Q) : mi_W d 178 255 [some (.ref l1), some (.int l2), some (.long l3), none, some (.long l4), none] [] (n, sl, f) Q := by
  refine w_iconst (v := 1) cd_178_255 (by decide) ?_
  exact w_goto cd_178_256 (by decide) h5
theorem b_178_259 {d : Nat} {Q : (Option Value ⊕ Nat) → mi_H → Prop} (n sl : Nat) (f : Nat → mi_C) {l1 : Nat} {l2 : Int32} {l3 : Int64} {l4 : Int64} (h5 : mi_W d 178 301 [some (.ref l1), some (.int l2), some (.long l3), none, some (.long l4), none] [.int 0] (n, sl, f) Q) : mi_W d 178 259 [some (.ref l1), some (.int l2), some (.long l3), none, some (.long l4), none] [] (n, sl, f) Q := by
  refine w_iconst (v := 0) cd_178_259 (by decide) ?_
  exact w_goto cd_178_260 (by decide) h5
theorem b_178_263 {d : Nat} {Q : (Option Value ⊕ Nat) → mi_H → Prop} (n sl : Nat) (f : Nat → mi_C) {l1 : Nat} {l2 : Int32} {l3 : Int64} {l4 : Int64} {fs5 : List Value} {x8 : Nat} (m10 i10 : Nat) (g10 : Nat → Int32) (h6 : f l1 = .inr (12, fs5)) (h7 : l1 < n) (h9 : fs5[12]? = some (.ref x8)) (h11 : f x8 = .inl (0, m10, .inl g10)) (h12 : x8 < n ∨ x8 = mi_SC) (h13 : mi_ix l2 m10 i10) (h14 : ¬ (g10 i10) = 31 → mi_W d 178 289 [some (.ref l1), some (.int l2), some (.long l3), none, some (.long l4), none] [] (n, sl, f) Q) (h15 : ¬ (¬ (g10 i10) = 31) → mi_W d 178 274 [some (.ref l1), some (.int l2), some (.long l3), none, some (.long l4), none] [] (n, sl, f) Q) : mi_W d 178 263 [some (.ref l1), some (.int l2), some (.long l3), none, some (.long l4), none] [] (n, sl, f) Q := by
  refine w_aload_n cd_178_263 rfl ?_
  refine w_getfield cd_178_264 (show mt_f 12 77 = some (12, 12) by decide +kernel) h6 h7 h9 ?_
  refine w_iload_n cd_178_267 rfl ?_
  refine w_iaload cd_178_268 h11 h12 h13 ?_
  refine w_bipush (v := 31) cd_178_269 (by decide) ?_
  exact w_if_icmpne cd_178_271 (by decide) h14 h15
theorem b_178_274 {d : Nat} {Q : (Option Value ⊕ Nat) → mi_H → Prop} (n sl : Nat) (f : Nat → mi_C) {l1 : Nat} {l2 : Int32} {l3 : Int64} {l4 : Int64} (h5 : (0 : Int32) ≤ (lg_cmp l3 l4) → mi_W d 178 285 [some (.ref l1), some (.int l2), some (.long l3), none, some (.long l4), none] [] (n, sl, f) Q) (h6 : ¬ ((0 : Int32) ≤ (lg_cmp l3 l4)) → mi_W d 178 281 [some (.ref l1), some (.int l2), some (.long l3), none, some (.long l4), none] [] (n, sl, f) Q) : mi_W d 178 274 [some (.ref l1), some (.int l2), some (.long l3), none, some (.long l4), none] [] (n, sl, f) Q := by
  refine w_lload_n cd_178_274 rfl ?_
  refine w_lload cd_178_275 rfl ?_
  refine w_lcmp cd_178_277 ?_
  exact w_ifge cd_178_278 (by decide) h5 h6
theorem b_178_281 {d : Nat} {Q : (Option Value ⊕ Nat) → mi_H → Prop} (n sl : Nat) (f : Nat → mi_C) {l1 : Nat} {l2 : Int32} {l3 : Int64} {l4 : Int64} (h5 : mi_W d 178 301 [some (.ref l1), some (.int l2), some (.long l3), none, some (.long l4), none] [.int 1] (n, sl, f) Q) : mi_W d 178 281 [some (.ref l1), some (.int l2), some (.long l3), none, some (.long l4), none] [] (n, sl, f) Q := by
  refine w_iconst (v := 1) cd_178_281 (by decide) ?_
  exact w_goto cd_178_282 (by decide) h5
theorem b_178_285 {d : Nat} {Q : (Option Value ⊕ Nat) → mi_H → Prop} (n sl : Nat) (f : Nat → mi_C) {l1 : Nat} {l2 : Int32} {l3 : Int64} {l4 : Int64} (h5 : mi_W d 178 301 [some (.ref l1), some (.int l2), some (.long l3), none, some (.long l4), none] [.int 0] (n, sl, f) Q) : mi_W d 178 285 [some (.ref l1), some (.int l2), some (.long l3), none, some (.long l4), none] [] (n, sl, f) Q := by
  refine w_iconst (v := 0) cd_178_285 (by decide) ?_
  exact w_goto cd_178_286 (by decide) h5
theorem b_178_289 {d : Nat} {Q : (Option Value ⊕ Nat) → mi_H → Prop} (n sl : Nat) (f : Nat → mi_C) {l1 : Nat} {l2 : Int32} {l3 : Int64} {l4 : Int64} (h5 : ¬ (lg_cmp l3 l4) = (0 : Int32) → mi_W d 178 300 [some (.ref l1), some (.int l2), some (.long l3), none, some (.long l4), none] [] (n, sl, f) Q) (h6 : ¬ (¬ (lg_cmp l3 l4) = (0 : Int32)) → mi_W d 178 296 [some (.ref l1), some (.int l2), some (.long l3), none, some (.long l4), none] [] (n, sl, f) Q) : mi_W d 178 289 [some (.ref l1), some (.int l2), some (.long l3), none, some (.long l4), none] [] (n, sl, f) Q := by
  refine w_lload_n cd_178_289 rfl ?_
  refine w_lload cd_178_290 rfl ?_
  refine w_lcmp cd_178_292 ?_
  exact w_ifne cd_178_293 (by decide) h5 h6
theorem b_178_296 {d : Nat} {Q : (Option Value ⊕ Nat) → mi_H → Prop} (n sl : Nat) (f : Nat → mi_C) {l1 : Nat} {l2 : Int32} {l3 : Int64} {l4 : Int64} (h5 : mi_W d 178 301 [some (.ref l1), some (.int l2), some (.long l3), none, some (.long l4), none] [.int 1] (n, sl, f) Q) : mi_W d 178 296 [some (.ref l1), some (.int l2), some (.long l3), none, some (.long l4), none] [] (n, sl, f) Q := by
  refine w_iconst (v := 1) cd_178_296 (by decide) ?_
  exact w_goto cd_178_297 (by decide) h5
theorem b_178_300 {d : Nat} {Q : (Option Value ⊕ Nat) → mi_H → Prop} (n sl : Nat) (f : Nat → mi_C) {l1 : Nat} {l2 : Int32} {l3 : Int64} {l4 : Int64} (h5 : mi_W d 178 301 [some (.ref l1), some (.int l2), some (.long l3), none, some (.long l4), none] [.int 0] (n, sl, f) Q) : mi_W d 178 300 [some (.ref l1), some (.int l2), some (.long l3), none, some (.long l4), none] [] (n, sl, f) Q := by
  refine w_iconst (v := 0) cd_178_300 (by decide) ?_
  exact h5
theorem b_178_301 {d : Nat} {Q : (Option Value ⊕ Nat) → mi_H → Prop} (n sl : Nat) (f : Nat → mi_C) {l1 : Nat} {l2 : Int32} {l3 : Int64} {l4 : Int64} {s5 : Int32} (h6 : s5 = 0 ∨ s5 = 1) (h7 : Q (.inl (some (.int s5))) (n, sl, f)) : mi_W d 178 301 [some (.ref l1), some (.int l2), some (.long l3), none, some (.long l4), none] [.int s5] (n, sl, f) Q := by
  exact w_ireturn_z cd_178_301 (by decide +kernel) h6 h7
/-! MarloweHostModel.two(IJJ)J -/
theorem cd_179_0 : mt_cd 179 0 = some (.aload_n 0) := by decide +kernel
theorem cd_179_1 : mt_cd 179 1 = some (.getfield 441) := by decide +kernel
theorem cd_179_4 : mt_cd 179 4 = some (.ifCond .eq 5) := by decide +kernel
theorem cd_179_7 : mt_cd 179 7 = some (.lconst 0) := by decide +kernel
theorem cd_179_8 : mt_cd 179 8 = some (.lreturn) := by decide +kernel
theorem cd_179_9 : mt_cd 179 9 = some (.iload_n 1) := by decide +kernel
theorem cd_179_10 : mt_cd 179 10 = some (.bipush 13) := by decide +kernel
theorem cd_179_12 : mt_cd 179 12 = some (.if_icmp .eq 9) := by decide +kernel
theorem cd_179_15 : mt_cd 179 15 = some (.iload_n 1) := by decide +kernel
theorem cd_179_16 : mt_cd 179 16 = some (.bipush 14) := by decide +kernel
theorem cd_179_18 : mt_cd 179 18 = some (.if_icmp .ne 89) := by decide +kernel
theorem cd_179_21 : mt_cd 179 21 = some (.iload_n 1) := by decide +kernel
theorem cd_179_22 : mt_cd 179 22 = some (.bipush 13) := by decide +kernel
theorem cd_179_24 : mt_cd 179 24 = some (.if_icmp .ne 10) := by decide +kernel
theorem cd_179_27 : mt_cd 179 27 = some (.lload_n 2) := by decide +kernel
theorem cd_179_28 : mt_cd 179 28 = some (.lload 4) := by decide +kernel
theorem cd_179_30 : mt_cd 179 30 = some (.ladd) := by decide +kernel
theorem cd_179_31 : mt_cd 179 31 = some (.goto 7) := by decide +kernel
theorem cd_179_34 : mt_cd 179 34 = some (.lload_n 2) := by decide +kernel
theorem cd_179_35 : mt_cd 179 35 = some (.lload 4) := by decide +kernel
theorem cd_179_37 : mt_cd 179 37 = some (.lsub) := by decide +kernel
theorem cd_179_38 : mt_cd 179 38 = some (.lstore 6) := by decide +kernel
theorem cd_179_40 : mt_cd 179 40 = some (.iload_n 1) := by decide +kernel
theorem cd_179_41 : mt_cd 179 41 = some (.bipush 13) := by decide +kernel
theorem cd_179_43 : mt_cd 179 43 = some (.if_icmp .ne 26) := by decide +kernel
theorem cd_179_46 : mt_cd 179 46 = some (.lload_n 2) := by decide +kernel
theorem cd_179_47 : mt_cd 179 47 = some (.lload 6) := by decide +kernel
theorem cd_179_49 : mt_cd 179 49 = some (.lxor) := by decide +kernel
theorem cd_179_50 : mt_cd 179 50 = some (.lload 4) := by decide +kernel
theorem cd_179_52 : mt_cd 179 52 = some (.lload 6) := by decide +kernel
theorem cd_179_54 : mt_cd 179 54 = some (.lxor) := by decide +kernel
theorem cd_179_55 : mt_cd 179 55 = some (.land) := by decide +kernel
theorem cd_179_56 : mt_cd 179 56 = some (.lconst 0) := by decide +kernel
theorem cd_179_57 : mt_cd 179 57 = some (.lcmp) := by decide +kernel
theorem cd_179_58 : mt_cd 179 58 = some (.ifCond .ge 7) := by decide +kernel
theorem cd_179_61 : mt_cd 179 61 = some (.iconst 1) := by decide +kernel
theorem cd_179_62 : mt_cd 179 62 = some (.goto 26) := by decide +kernel
theorem cd_179_65 : mt_cd 179 65 = some (.iconst 0) := by decide +kernel
theorem cd_179_66 : mt_cd 179 66 = some (.goto 22) := by decide +kernel
theorem cd_179_69 : mt_cd 179 69 = some (.lload_n 2) := by decide +kernel
theorem cd_179_70 : mt_cd 179 70 = some (.lload 4) := by decide +kernel
theorem cd_179_72 : mt_cd 179 72 = some (.lxor) := by decide +kernel
theorem cd_179_73 : mt_cd 179 73 = some (.lload_n 2) := by decide +kernel
theorem cd_179_74 : mt_cd 179 74 = some (.lload 6) := by decide +kernel
theorem cd_179_76 : mt_cd 179 76 = some (.lxor) := by decide +kernel
theorem cd_179_77 : mt_cd 179 77 = some (.land) := by decide +kernel
theorem cd_179_78 : mt_cd 179 78 = some (.lconst 0) := by decide +kernel
theorem cd_179_79 : mt_cd 179 79 = some (.lcmp) := by decide +kernel
theorem cd_179_80 : mt_cd 179 80 = some (.ifCond .ge 7) := by decide +kernel
theorem cd_179_83 : mt_cd 179 83 = some (.iconst 1) := by decide +kernel
theorem cd_179_84 : mt_cd 179 84 = some (.goto 4) := by decide +kernel
theorem cd_179_87 : mt_cd 179 87 = some (.iconst 0) := by decide +kernel
theorem cd_179_88 : mt_cd 179 88 = some (.istore 8) := by decide +kernel
theorem cd_179_90 : mt_cd 179 90 = some (.iload 8) := by decide +kernel
theorem cd_179_92 : mt_cd 179 92 = some (.ifCond .eq 8) := by decide +kernel
theorem cd_179_95 : mt_cd 179 95 = some (.aload_n 0) := by decide +kernel
theorem cd_179_96 : mt_cd 179 96 = some (.iconst 1) := by decide +kernel
theorem cd_179_97 : mt_cd 179 97 = some (.putfield 441) := by decide +kernel
theorem cd_179_100 : mt_cd 179 100 = some (.aload_n 0) := by decide +kernel
theorem cd_179_101 : mt_cd 179 101 = some (.lload 6) := by decide +kernel
theorem cd_179_103 : mt_cd 179 103 = some (.invokevirtual 455) := by decide +kernel
theorem cd_179_106 : mt_cd 179 106 = some (.lreturn) := by decide +kernel
theorem cd_179_107 : mt_cd 179 107 = some (.iload_n 1) := by decide +kernel
theorem cd_179_108 : mt_cd 179 108 = some (.bipush 16) := by decide +kernel
theorem cd_179_110 : mt_cd 179 110 = some (.if_icmp .ne 23) := by decide +kernel
theorem cd_179_113 : mt_cd 179 113 = some (.lload 4) := by decide +kernel
theorem cd_179_115 : mt_cd 179 115 = some (.lconst 0) := by decide +kernel
theorem cd_179_116 : mt_cd 179 116 = some (.lcmp) := by decide +kernel
theorem cd_179_117 : mt_cd 179 117 = some (.ifCond .ne 7) := by decide +kernel
theorem cd_179_120 : mt_cd 179 120 = some (.lconst 0) := by decide +kernel
theorem cd_179_121 : mt_cd 179 121 = some (.goto 11) := by decide +kernel
theorem cd_179_124 : mt_cd 179 124 = some (.aload_n 0) := by decide +kernel
theorem cd_179_125 : mt_cd 179 125 = some (.lload_n 2) := by decide +kernel
theorem cd_179_126 : mt_cd 179 126 = some (.lload 4) := by decide +kernel
theorem cd_179_128 : mt_cd 179 128 = some (.ldiv) := by decide +kernel
theorem cd_179_129 : mt_cd 179 129 = some (.invokevirtual 455) := by decide +kernel
theorem cd_179_132 : mt_cd 179 132 = some (.lreturn) := by decide +kernel
theorem cd_179_133 : mt_cd 179 133 = some (.lload_n 2) := by decide +kernel
theorem cd_179_134 : mt_cd 179 134 = some (.lload 4) := by decide +kernel
theorem cd_179_136 : mt_cd 179 136 = some (.lmul) := by decide +kernel
theorem cd_179_137 : mt_cd 179 137 = some (.lstore 6) := by decide +kernel
theorem cd_179_139 : mt_cd 179 139 = some (.lload_n 2) := by decide +kernel
theorem cd_179_140 : mt_cd 179 140 = some (.lload 4) := by decide +kernel
theorem cd_179_142 : mt_cd 179 142 = some (.invokestatic 484) := by decide +kernel
theorem cd_179_145 : mt_cd 179 145 = some (.lload 6) := by decide +kernel
theorem cd_179_147 : mt_cd 179 147 = some (.bipush 63) := by decide +kernel
theorem cd_179_149 : mt_cd 179 149 = some (.lshr) := by decide +kernel
theorem cd_179_150 : mt_cd 179 150 = some (.lcmp) := by decide +kernel
theorem cd_179_151 : mt_cd 179 151 = some (.ifCond .eq 8) := by decide +kernel
theorem cd_179_154 : mt_cd 179 154 = some (.aload_n 0) := by decide +kernel
theorem cd_179_155 : mt_cd 179 155 = some (.iconst 1) := by decide +kernel
theorem cd_179_156 : mt_cd 179 156 = some (.putfield 441) := by decide +kernel
theorem cd_179_159 : mt_cd 179 159 = some (.aload_n 0) := by decide +kernel
theorem cd_179_160 : mt_cd 179 160 = some (.lload 6) := by decide +kernel
theorem cd_179_162 : mt_cd 179 162 = some (.invokevirtual 455) := by decide +kernel
theorem cd_179_165 : mt_cd 179 165 = some (.lreturn) := by decide +kernel
theorem b_179_0 {d : Nat} {Q : (Option Value ⊕ Nat) → mi_H → Prop} (n sl : Nat) (f : Nat → mi_C) {l1 : Nat} {l2 : Int32} {l3 : Int64} {l4 : Int64} {o5 : Option Value} {o6 : Option Value} {o7 : Option Value} {fs8 : List Value} {x11 : Int32} (h9 : f l1 = .inr (12, fs8)) (h10 : l1 < n) (h12 : fs8[46]? = some (.int x11)) (h13 : x11 = (0 : Int32) → mi_W d 179 9 [some (.ref l1), some (.int l2), some (.long l3), none, some (.long l4), none, o5, o6, o7] [] (n, sl, f) Q) (h14 : ¬ (x11 = (0 : Int32)) → mi_W d 179 7 [some (.ref l1), some (.int l2), some (.long l3), none, some (.long l4), none, o5, o6, o7] [] (n, sl, f) Q) : mi_W d 179 0 [some (.ref l1), some (.int l2), some (.long l3), none, some (.long l4), none, o5, o6, o7] [] (n, sl, f) Q := by
  refine w_aload_n cd_179_0 rfl ?_
  refine w_getfield cd_179_1 (show mt_f 12 441 = some (12, 46) by decide +kernel) h9 h10 h12 ?_
  exact w_ifeq cd_179_4 (by decide) h13 h14
theorem b_179_7 {d : Nat} {Q : (Option Value ⊕ Nat) → mi_H → Prop} (n sl : Nat) (f : Nat → mi_C) {l1 : Nat} {l2 : Int32} {l3 : Int64} {l4 : Int64} {o5 : Option Value} {o6 : Option Value} {o7 : Option Value} (h8 : Q (.inl (some (.long 0))) (n, sl, f)) : mi_W d 179 7 [some (.ref l1), some (.int l2), some (.long l3), none, some (.long l4), none, o5, o6, o7] [] (n, sl, f) Q := by
  refine w_lconst (lv := 0) cd_179_7 (by decide) ?_
  exact w_lreturn cd_179_8 (by decide +kernel) h8
theorem b_179_9 {d : Nat} {Q : (Option Value ⊕ Nat) → mi_H → Prop} (n sl : Nat) (f : Nat → mi_C) {l1 : Nat} {l2 : Int32} {l3 : Int64} {l4 : Int64} {o5 : Option Value} {o6 : Option Value} {o7 : Option Value} (h8 : l2 = 13 → mi_W d 179 21 [some (.ref l1), some (.int l2), some (.long l3), none, some (.long l4), none, o5, o6, o7] [] (n, sl, f) Q) (h9 : ¬ (l2 = 13) → mi_W d 179 15 [some (.ref l1), some (.int l2), some (.long l3), none, some (.long l4), none, o5, o6, o7] [] (n, sl, f) Q) : mi_W d 179 9 [some (.ref l1), some (.int l2), some (.long l3), none, some (.long l4), none, o5, o6, o7] [] (n, sl, f) Q := by
  refine w_iload_n cd_179_9 rfl ?_
  refine w_bipush (v := 13) cd_179_10 (by decide) ?_
  exact w_if_icmpeq cd_179_12 (by decide) h8 h9
theorem b_179_15 {d : Nat} {Q : (Option Value ⊕ Nat) → mi_H → Prop} (n sl : Nat) (f : Nat → mi_C) {l1 : Nat} {l2 : Int32} {l3 : Int64} {l4 : Int64} {o5 : Option Value} {o6 : Option Value} {o7 : Option Value} (h8 : ¬ l2 = 14 → mi_W d 179 107 [some (.ref l1), some (.int l2), some (.long l3), none, some (.long l4), none, o5, o6, o7] [] (n, sl, f) Q) (h9 : ¬ (¬ l2 = 14) → mi_W d 179 21 [some (.ref l1), some (.int l2), some (.long l3), none, some (.long l4), none, o5, o6, o7] [] (n, sl, f) Q) : mi_W d 179 15 [some (.ref l1), some (.int l2), some (.long l3), none, some (.long l4), none, o5, o6, o7] [] (n, sl, f) Q := by
  refine w_iload_n cd_179_15 rfl ?_
  refine w_bipush (v := 14) cd_179_16 (by decide) ?_
  exact w_if_icmpne cd_179_18 (by decide) h8 h9
theorem b_179_21 {d : Nat} {Q : (Option Value ⊕ Nat) → mi_H → Prop} (n sl : Nat) (f : Nat → mi_C) {l1 : Nat} {l2 : Int32} {l3 : Int64} {l4 : Int64} {o5 : Option Value} {o6 : Option Value} {o7 : Option Value} (h8 : ¬ l2 = 13 → mi_W d 179 34 [some (.ref l1), some (.int l2), some (.long l3), none, some (.long l4), none, o5, o6, o7] [] (n, sl, f) Q) (h9 : ¬ (¬ l2 = 13) → mi_W d 179 27 [some (.ref l1), some (.int l2), some (.long l3), none, some (.long l4), none, o5, o6, o7] [] (n, sl, f) Q) : mi_W d 179 21 [some (.ref l1), some (.int l2), some (.long l3), none, some (.long l4), none, o5, o6, o7] [] (n, sl, f) Q := by
  refine w_iload_n cd_179_21 rfl ?_
  refine w_bipush (v := 13) cd_179_22 (by decide) ?_
  exact w_if_icmpne cd_179_24 (by decide) h8 h9
theorem b_179_27 {d : Nat} {Q : (Option Value ⊕ Nat) → mi_H → Prop} (n sl : Nat) (f : Nat → mi_C) {l1 : Nat} {l2 : Int32} {l3 : Int64} {l4 : Int64} {o5 : Option Value} {o6 : Option Value} {o7 : Option Value} (h8 : mi_W d 179 38 [some (.ref l1), some (.int l2), some (.long l3), none, some (.long l4), none, o5, o6, o7] [.long (l3 + l4)] (n, sl, f) Q) : mi_W d 179 27 [some (.ref l1), some (.int l2), some (.long l3), none, some (.long l4), none, o5, o6, o7] [] (n, sl, f) Q := by
  refine w_lload_n cd_179_27 rfl ?_
  refine w_lload cd_179_28 rfl ?_
  refine w_ladd cd_179_30 ?_
  exact w_goto cd_179_31 (by decide) h8
theorem b_179_34 {d : Nat} {Q : (Option Value ⊕ Nat) → mi_H → Prop} (n sl : Nat) (f : Nat → mi_C) {l1 : Nat} {l2 : Int32} {l3 : Int64} {l4 : Int64} {o5 : Option Value} {o6 : Option Value} {o7 : Option Value} (h8 : mi_W d 179 38 [some (.ref l1), some (.int l2), some (.long l3), none, some (.long l4), none, o5, o6, o7] [.long (l3 - l4)] (n, sl, f) Q) : mi_W d 179 34 [some (.ref l1), some (.int l2), some (.long l3), none, some (.long l4), none, o5, o6, o7] [] (n, sl, f) Q := by
  refine w_lload_n cd_179_34 rfl ?_
  refine w_lload cd_179_35 rfl ?_
  refine w_lsub cd_179_37 ?_
  exact h8
theorem b_179_38 {d : Nat} {Q : (Option Value ⊕ Nat) → mi_H → Prop} (n sl : Nat) (f : Nat → mi_C) {l1 : Nat} {l2 : Int32} {l3 : Int64} {l4 : Int64} {o5 : Option Value} {o6 : Option Value} {o7 : Option Value} {s8 : Int64} (h9 : ¬ l2 = 13 → mi_W d 179 69 [some (.ref l1), some (.int l2), some (.long l3), none, some (.long l4), none, some (.long s8), none, o7] [] (n, sl, f) Q) (h10 : ¬ (¬ l2 = 13) → mi_W d 179 46 [some (.ref l1), some (.int l2), some (.long l3), none, some (.long l4), none, some (.long s8), none, o7] [] (n, sl, f) Q) : mi_W d 179 38 [some (.ref l1), some (.int l2), some (.long l3), none, some (.long l4), none, o5, o6, o7] [.long s8] (n, sl, f) Q := by
  refine w_lstore (ls' := [some (.ref l1), some (.int l2), some (.long l3), none, some (.long l4), none, some (.long s8), none, o7]) cd_179_38 (Nat.le_of_ble_eq_true rfl) rfl ?_
  refine w_iload_n cd_179_40 rfl ?_
  refine w_bipush (v := 13) cd_179_41 (by decide) ?_
  exact w_if_icmpne cd_179_43 (by decide) h9 h10
theorem b_179_46 {d : Nat} {Q : (Option Value ⊕ Nat) → mi_H → Prop} (n sl : Nat) (f : Nat → mi_C) {l1 : Nat} {l2 : Int32} {l3 : Int64} {l4 : Int64} {l5 : Int64} {o6 : Option Value} (h7 : (0 : Int32) ≤ (lg_cmp ((l3 ^^^ l5) &&& (l4 ^^^ l5)) 0) → mi_W d 179 65 [some (.ref l1), some (.int l2), some (.long l3), none, some (.long l4), none, some (.long l5), none, o6] [] (n, sl, f) Q) (h8 : ¬ ((0 : Int32) ≤ (lg_cmp ((l3 ^^^ l5) &&& (l4 ^^^ l5)) 0)) → mi_W d 179 61 [some (.ref l1), some (.int l2), some (.long l3), none, some (.long l4), none, some (.long l5), none, o6] [] (n, sl, f) Q) : mi_W d 179 46 [some (.ref l1), some (.int l2), some (.long l3), none, some (.long l4), none, some (.long l5), none, o6] [] (n, sl, f) Q := by
  refine w_lload_n cd_179_46 rfl ?_
  refine w_lload cd_179_47 rfl ?_
  refine w_lxor cd_179_49 ?_
  refine w_lload cd_179_50 rfl ?_
  refine w_lload cd_179_52 rfl ?_
  refine w_lxor cd_179_54 ?_
  refine w_land cd_179_55 ?_
  refine w_lconst (lv := 0) cd_179_56 (by decide) ?_
  refine w_lcmp cd_179_57 ?_
  exact w_ifge cd_179_58 (by decide) h7 h8
theorem b_179_61 {d : Nat} {Q : (Option Value ⊕ Nat) → mi_H → Prop} (n sl : Nat) (f : Nat → mi_C) {l1 : Nat} {l2 : Int32} {l3 : Int64} {l4 : Int64} {l5 : Int64} {o6 : Option Value} (h7 : mi_W d 179 88 [some (.ref l1), some (.int l2), some (.long l3), none, some (.long l4), none, some (.long l5), none, o6] [.int 1] (n, sl, f) Q) : mi_W d 179 61 [some (.ref l1), some (.int l2), some (.long l3), none, some (.long l4), none, some (.long l5), none, o6] [] (n, sl, f) Q := by
  refine w_iconst (v := 1) cd_179_61 (by decide) ?_
  exact w_goto cd_179_62 (by decide) h7
theorem b_179_65 {d : Nat} {Q : (Option Value ⊕ Nat) → mi_H → Prop} (n sl : Nat) (f : Nat → mi_C) {l1 : Nat} {l2 : Int32} {l3 : Int64} {l4 : Int64} {l5 : Int64} {o6 : Option Value} (h7 : mi_W d 179 88 [some (.ref l1), some (.int l2), some (.long l3), none, some (.long l4), none, some (.long l5), none, o6] [.int 0] (n, sl, f) Q) : mi_W d 179 65 [some (.ref l1), some (.int l2), some (.long l3), none, some (.long l4), none, some (.long l5), none, o6] [] (n, sl, f) Q := by
  refine w_iconst (v := 0) cd_179_65 (by decide) ?_
  exact w_goto cd_179_66 (by decide) h7
theorem b_179_69 {d : Nat} {Q : (Option Value ⊕ Nat) → mi_H → Prop} (n sl : Nat) (f : Nat → mi_C) {l1 : Nat} {l2 : Int32} {l3 : Int64} {l4 : Int64} {l5 : Int64} {o6 : Option Value} (h7 : (0 : Int32) ≤ (lg_cmp ((l3 ^^^ l4) &&& (l3 ^^^ l5)) 0) → mi_W d 179 87 [some (.ref l1), some (.int l2), some (.long l3), none, some (.long l4), none, some (.long l5), none, o6] [] (n, sl, f) Q) (h8 : ¬ ((0 : Int32) ≤ (lg_cmp ((l3 ^^^ l4) &&& (l3 ^^^ l5)) 0)) → mi_W d 179 83 [some (.ref l1), some (.int l2), some (.long l3), none, some (.long l4), none, some (.long l5), none, o6] [] (n, sl, f) Q) : mi_W d 179 69 [some (.ref l1), some (.int l2), some (.long l3), none, some (.long l4), none, some (.long l5), none, o6] [] (n, sl, f) Q := by
  refine w_lload_n cd_179_69 rfl ?_
  refine w_lload cd_179_70 rfl ?_
  refine w_lxor cd_179_72 ?_
  refine w_lload_n cd_179_73 rfl ?_
  refine w_lload cd_179_74 rfl ?_
  refine w_lxor cd_179_76 ?_
  refine w_land cd_179_77 ?_
  refine w_lconst (lv := 0) cd_179_78 (by decide) ?_
  refine w_lcmp cd_179_79 ?_
  exact w_ifge cd_179_80 (by decide) h7 h8
theorem b_179_83 {d : Nat} {Q : (Option Value ⊕ Nat) → mi_H → Prop} (n sl : Nat) (f : Nat → mi_C) {l1 : Nat} {l2 : Int32} {l3 : Int64} {l4 : Int64} {l5 : Int64} {o6 : Option Value} (h7 : mi_W d 179 88 [some (.ref l1), some (.int l2), some (.long l3), none, some (.long l4), none, some (.long l5), none, o6] [.int 1] (n, sl, f) Q) : mi_W d 179 83 [some (.ref l1), some (.int l2), some (.long l3), none, some (.long l4), none, some (.long l5), none, o6] [] (n, sl, f) Q := by
  refine w_iconst (v := 1) cd_179_83 (by decide) ?_
  exact w_goto cd_179_84 (by decide) h7
theorem b_179_87 {d : Nat} {Q : (Option Value ⊕ Nat) → mi_H → Prop} (n sl : Nat) (f : Nat → mi_C) {l1 : Nat} {l2 : Int32} {l3 : Int64} {l4 : Int64} {l5 : Int64} {o6 : Option Value} (h7 : mi_W d 179 88 [some (.ref l1), some (.int l2), some (.long l3), none, some (.long l4), none, some (.long l5), none, o6] [.int 0] (n, sl, f) Q) : mi_W d 179 87 [some (.ref l1), some (.int l2), some (.long l3), none, some (.long l4), none, some (.long l5), none, o6] [] (n, sl, f) Q := by
  refine w_iconst (v := 0) cd_179_87 (by decide) ?_
  exact h7
theorem b_179_88 {d : Nat} {Q : (Option Value ⊕ Nat) → mi_H → Prop} (n sl : Nat) (f : Nat → mi_C) {l1 : Nat} {l2 : Int32} {l3 : Int64} {l4 : Int64} {l5 : Int64} {o6 : Option Value} {s7 : Int32} (h8 : s7 = (0 : Int32) → mi_W d 179 100 [some (.ref l1), some (.int l2), some (.long l3), none, some (.long l4), none, some (.long l5), none, some (.int s7)] [] (n, sl, f) Q) (h9 : ¬ (s7 = (0 : Int32)) → mi_W d 179 95 [some (.ref l1), some (.int l2), some (.long l3), none, some (.long l4), none, some (.long l5), none, some (.int s7)] [] (n, sl, f) Q) : mi_W d 179 88 [some (.ref l1), some (.int l2), some (.long l3), none, some (.long l4), none, some (.long l5), none, o6] [.int s7] (n, sl, f) Q := by
  refine w_istore (ls' := [some (.ref l1), some (.int l2), some (.long l3), none, some (.long l4), none, some (.long l5), none, some (.int s7)]) cd_179_88 (Nat.le_of_ble_eq_true rfl) rfl ?_
  refine w_iload cd_179_90 rfl ?_
  exact w_ifeq cd_179_92 (by decide) h8 h9
theorem b_179_95 {d : Nat} {Q : (Option Value ⊕ Nat) → mi_H → Prop} (n sl : Nat) (f : Nat → mi_C) {l1 : Nat} {l2 : Int32} {l3 : Int64} {l4 : Int64} {l5 : Int64} {l6 : Int32} {fs7 : List Value} (h8 : f l1 = .inr (12, fs7)) (h9 : l1 < n) (h10 : 46 < fs7.length) (h11 : mi_fk .boolean (.int 1) = true) (h12 : mi_W d 179 100 [some (.ref l1), some (.int l2), some (.long l3), none, some (.long l4), none, some (.long l5), none, some (.int l6)] [] (n, sl, (va_up f l1 (.inr (12, fs7.set 46 (.int 1))))) Q) : mi_W d 179 95 [some (.ref l1), some (.int l2), some (.long l3), none, some (.long l4), none, some (.long l5), none, some (.int l6)] [] (n, sl, f) Q := by
  refine w_aload_n cd_179_95 rfl ?_
  refine w_iconst (v := 1) cd_179_96 (by decide) ?_
  refine w_putfield (w := .int 1) cd_179_97 (show mt_f 12 441 = some (12, 46) by decide +kernel) h8 h9 ⟨h10, h11, Or.inl (by decide)⟩ ?_
  exact h12
theorem b_179_100 {d : Nat} {Q : (Option Value ⊕ Nat) → mi_H → Prop} (n sl : Nat) (f : Nat → mi_C) {l1 : Nat} {l2 : Int32} {l3 : Int64} {l4 : Int64} {l5 : Int64} {l6 : Int32} {fs7 : List Value} (h8 : f l1 = .inr (12, fs7)) (h9 : l1 < n) (h10 : mi_W d 177 0 (mi_en 3 [.ref l1, .long l5]) [] (n, sl, f) (mi_Kc d 179 103 [some (.ref l1), some (.int l2), some (.long l3), none, some (.long l4), none, some (.long l5), none, some (.int l6)] [] Q)) : mi_W (d + 1) 179 100 [some (.ref l1), some (.int l2), some (.long l3), none, some (.long l4), none, some (.long l5), none, some (.int l6)] [] (n, sl, f) Q := by
  refine w_aload_n cd_179_100 rfl ?_
  refine w_lload cd_179_101 rfl ?_
  exact w_invokevirtual cd_179_103 (show mt_m 12 455 = some (177, 0) by decide +kernel) (rest := []) rfl (as := [.ref l1, .long l5]) rfl h8 (Or.inl h9) ⟨Nat.le_of_ble_eq_true rfl, Nat.le_of_ble_eq_true rfl, Nat.le_of_ble_eq_true rfl⟩ h10
theorem b_179_106 {d : Nat} {Q : (Option Value ⊕ Nat) → mi_H → Prop} (n sl : Nat) (f : Nat → mi_C) {l1 : Nat} {l2 : Int32} {l3 : Int64} {l4 : Int64} {l5 : Int64} {l6 : Int32} {s7 : Int64} (h8 : Q (.inl (some (.long s7))) (n, sl, f)) : mi_W d 179 106 [some (.ref l1), some (.int l2), some (.long l3), none, some (.long l4), none, some (.long l5), none, some (.int l6)] [.long s7] (n, sl, f) Q := by
  exact w_lreturn cd_179_106 (by decide +kernel) h8
theorem b_179_107 {d : Nat} {Q : (Option Value ⊕ Nat) → mi_H → Prop} (n sl : Nat) (f : Nat → mi_C) {l1 : Nat} {l2 : Int32} {l3 : Int64} {l4 : Int64} {o5 : Option Value} {o6 : Option Value} {o7 : Option Value} (h8 : ¬ l2 = 16 → mi_W d 179 133 [some (.ref l1), some (.int l2), some (.long l3), none, some (.long l4), none, o5, o6, o7] [] (n, sl, f) Q) (h9 : ¬ (¬ l2 = 16) → mi_W d 179 113 [some (.ref l1), some (.int l2), some (.long l3), none, some (.long l4), none, o5, o6, o7] [] (n, sl, f) Q) : mi_W d 179 107 [some (.ref l1), some (.int l2), some (.long l3), none, some (.long l4), none, o5, o6, o7] [] (n, sl, f) Q := by
  refine w_iload_n cd_179_107 rfl ?_
  refine w_bipush (v := 16) cd_179_108 (by decide) ?_
  exact w_if_icmpne cd_179_110 (by decide) h8 h9
theorem b_179_113 {d : Nat} {Q : (Option Value ⊕ Nat) → mi_H → Prop} (n sl : Nat) (f : Nat → mi_C) {l1 : Nat} {l2 : Int32} {l3 : Int64} {l4 : Int64} {o5 : Option Value} {o6 : Option Value} {o7 : Option Value} (h8 : ¬ (lg_cmp l4 0) = (0 : Int32) → mi_W d 179 124 [some (.ref l1), some (.int l2), some (.long l3), none, some (.long l4), none, o5, o6, o7] [] (n, sl, f) Q) (h9 : ¬ (¬ (lg_cmp l4 0) = (0 : Int32)) → mi_W d 179 120 [some (.ref l1), some (.int l2), some (.long l3), none, some (.long l4), none, o5, o6, o7] [] (n, sl, f) Q) : mi_W d 179 113 [some (.ref l1), some (.int l2), some (.long l3), none, some (.long l4), none, o5, o6, o7] [] (n, sl, f) Q := by
  refine w_lload cd_179_113 rfl ?_
  refine w_lconst (lv := 0) cd_179_115 (by decide) ?_
  refine w_lcmp cd_179_116 ?_
  exact w_ifne cd_179_117 (by decide) h8 h9
theorem b_179_120 {d : Nat} {Q : (Option Value ⊕ Nat) → mi_H → Prop} (n sl : Nat) (f : Nat → mi_C) {l1 : Nat} {l2 : Int32} {l3 : Int64} {l4 : Int64} {o5 : Option Value} {o6 : Option Value} {o7 : Option Value} (h8 : mi_W d 179 132 [some (.ref l1), some (.int l2), some (.long l3), none, some (.long l4), none, o5, o6, o7] [.long 0] (n, sl, f) Q) : mi_W d 179 120 [some (.ref l1), some (.int l2), some (.long l3), none, some (.long l4), none, o5, o6, o7] [] (n, sl, f) Q := by
  refine w_lconst (lv := 0) cd_179_120 (by decide) ?_
  exact w_goto cd_179_121 (by decide) h8
theorem b_179_124 {d : Nat} {Q : (Option Value ⊕ Nat) → mi_H → Prop} (n sl : Nat) (f : Nat → mi_C) {l1 : Nat} {l2 : Int32} {l3 : Int64} {l4 : Int64} {o5 : Option Value} {o6 : Option Value} {o7 : Option Value} {fs9 : List Value} (h8 : ¬ l4 = (0 : Int64)) (h10 : f l1 = .inr (12, fs9)) (h11 : l1 < n) (h12 : mi_W d 177 0 (mi_en 3 [.ref l1, .long (l3 / l4)]) [] (n, sl, f) (mi_Kc d 179 129 [some (.ref l1), some (.int l2), some (.long l3), none, some (.long l4), none, o5, o6, o7] [] Q)) : mi_W (d + 1) 179 124 [some (.ref l1), some (.int l2), some (.long l3), none, some (.long l4), none, o5, o6, o7] [] (n, sl, f) Q := by
  refine w_aload_n cd_179_124 rfl ?_
  refine w_lload_n cd_179_125 rfl ?_
  refine w_lload cd_179_126 rfl ?_
  refine w_ldiv cd_179_128 h8 ?_
  exact w_invokevirtual cd_179_129 (show mt_m 12 455 = some (177, 0) by decide +kernel) (rest := []) rfl (as := [.ref l1, .long (l3 / l4)]) rfl h10 (Or.inl h11) ⟨Nat.le_of_ble_eq_true rfl, Nat.le_of_ble_eq_true rfl, Nat.le_of_ble_eq_true rfl⟩ h12
theorem b_179_132 {d : Nat} {Q : (Option Value ⊕ Nat) → mi_H → Prop} (n sl : Nat) (f : Nat → mi_C) {l1 : Nat} {l2 : Int32} {l3 : Int64} {l4 : Int64} {o5 : Option Value} {o6 : Option Value} {o7 : Option Value} {s8 : Int64} (h9 : Q (.inl (some (.long s8))) (n, sl, f)) : mi_W d 179 132 [some (.ref l1), some (.int l2), some (.long l3), none, some (.long l4), none, o5, o6, o7] [.long s8] (n, sl, f) Q := by
  exact w_lreturn cd_179_132 (by decide +kernel) h9
theorem b_179_133 {d : Nat} {Q : (Option Value ⊕ Nat) → mi_H → Prop} (n sl : Nat) (f : Nat → mi_C) {l1 : Nat} {l2 : Int32} {l3 : Int64} {l4 : Int64} {o5 : Option Value} {o6 : Option Value} {o7 : Option Value} (h8 : mi_W d 180 0 (mi_en 20 [.long l3, .long l4]) [] (n, sl, f) (mi_Kc d 179 142 [some (.ref l1), some (.int l2), some (.long l3), none, some (.long l4), none, some (.long (l3 * l4)), none, o7] [] Q)) : mi_W (d + 1) 179 133 [some (.ref l1), some (.int l2), some (.long l3), none, some (.long l4), none, o5, o6, o7] [] (n, sl, f) Q := by
  refine w_lload_n cd_179_133 rfl ?_
  refine w_lload cd_179_134 rfl ?_
  refine w_lmul cd_179_136 ?_
  refine w_lstore (ls' := [some (.ref l1), some (.int l2), some (.long l3), none, some (.long l4), none, some (.long (l3 * l4)), none, o7]) cd_179_137 (Nat.le_of_ble_eq_true rfl) rfl ?_
  refine w_lload_n cd_179_139 rfl ?_
  refine w_lload cd_179_140 rfl ?_
  exact w_invokestatic cd_179_142 (show mt_m 12 484 = some (180, 4) by decide +kernel) (by decide) (rest := []) rfl (as := [.long l3, .long l4]) rfl ⟨Nat.le_of_ble_eq_true rfl, Nat.le_of_ble_eq_true rfl, Nat.le_of_ble_eq_true rfl⟩ h8
theorem b_179_145 {d : Nat} {Q : (Option Value ⊕ Nat) → mi_H → Prop} (n sl : Nat) (f : Nat → mi_C) {l1 : Nat} {l2 : Int32} {l3 : Int64} {l4 : Int64} {l5 : Int64} {o6 : Option Value} {s7 : Int64} (h8 : (lg_cmp s7 (l5 >>> ((63 : Int32).toInt64 &&& 63))) = (0 : Int32) → mi_W d 179 159 [some (.ref l1), some (.int l2), some (.long l3), none, some (.long l4), none, some (.long l5), none, o6] [] (n, sl, f) Q) (h9 : ¬ ((lg_cmp s7 (l5 >>> ((63 : Int32).toInt64 &&& 63))) = (0 : Int32)) → mi_W d 179 154 [some (.ref l1), some (.int l2), some (.long l3), none, some (.long l4), none, some (.long l5), none, o6] [] (n, sl, f) Q) : mi_W d 179 145 [some (.ref l1), some (.int l2), some (.long l3), none, some (.long l4), none, some (.long l5), none, o6] [.long s7] (n, sl, f) Q := by
  refine w_lload cd_179_145 rfl ?_
  refine w_bipush (v := 63) cd_179_147 (by decide) ?_
  refine w_lshr cd_179_149 ?_
  refine w_lcmp cd_179_150 ?_
  exact w_ifeq cd_179_151 (by decide) h8 h9
theorem b_179_154 {d : Nat} {Q : (Option Value ⊕ Nat) → mi_H → Prop} (n sl : Nat) (f : Nat → mi_C) {l1 : Nat} {l2 : Int32} {l3 : Int64} {l4 : Int64} {l5 : Int64} {o6 : Option Value} {fs7 : List Value} (h8 : f l1 = .inr (12, fs7)) (h9 : l1 < n) (h10 : 46 < fs7.length) (h11 : mi_fk .boolean (.int 1) = true) (h12 : mi_W d 179 159 [some (.ref l1), some (.int l2), some (.long l3), none, some (.long l4), none, some (.long l5), none, o6] [] (n, sl, (va_up f l1 (.inr (12, fs7.set 46 (.int 1))))) Q) : mi_W d 179 154 [some (.ref l1), some (.int l2), some (.long l3), none, some (.long l4), none, some (.long l5), none, o6] [] (n, sl, f) Q := by
  refine w_aload_n cd_179_154 rfl ?_
  refine w_iconst (v := 1) cd_179_155 (by decide) ?_
  refine w_putfield (w := .int 1) cd_179_156 (show mt_f 12 441 = some (12, 46) by decide +kernel) h8 h9 ⟨h10, h11, Or.inl (by decide)⟩ ?_
  exact h12
theorem b_179_159 {d : Nat} {Q : (Option Value ⊕ Nat) → mi_H → Prop} (n sl : Nat) (f : Nat → mi_C) {l1 : Nat} {l2 : Int32} {l3 : Int64} {l4 : Int64} {l5 : Int64} {o6 : Option Value} {fs7 : List Value} (h8 : f l1 = .inr (12, fs7)) (h9 : l1 < n) (h10 : mi_W d 177 0 (mi_en 3 [.ref l1, .long l5]) [] (n, sl, f) (mi_Kc d 179 162 [some (.ref l1), some (.int l2), some (.long l3), none, some (.long l4), none, some (.long l5), none, o6] [] Q)) : mi_W (d + 1) 179 159 [some (.ref l1), some (.int l2), some (.long l3), none, some (.long l4), none, some (.long l5), none, o6] [] (n, sl, f) Q := by
  refine w_aload_n cd_179_159 rfl ?_
  refine w_lload cd_179_160 rfl ?_
  exact w_invokevirtual cd_179_162 (show mt_m 12 455 = some (177, 0) by decide +kernel) (rest := []) rfl (as := [.ref l1, .long l5]) rfl h8 (Or.inl h9) ⟨Nat.le_of_ble_eq_true rfl, Nat.le_of_ble_eq_true rfl, Nat.le_of_ble_eq_true rfl⟩ h10
theorem b_179_165 {d : Nat} {Q : (Option Value ⊕ Nat) → mi_H → Prop} (n sl : Nat) (f : Nat → mi_C) {l1 : Nat} {l2 : Int32} {l3 : Int64} {l4 : Int64} {l5 : Int64} {o6 : Option Value} {s7 : Int64} (h8 : Q (.inl (some (.long s7))) (n, sl, f)) : mi_W d 179 165 [some (.ref l1), some (.int l2), some (.long l3), none, some (.long l4), none, some (.long l5), none, o6] [.long s7] (n, sl, f) Q := by
  exact w_lreturn cd_179_165 (by decide +kernel) h8
end
