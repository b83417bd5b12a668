section
/-! MarloweHostModel.warn(II)V -/
theorem cd_181_0 : mt_cd 181 0 = some (.aload_n 0) := by decide +kernel
theorem cd_181_1 : mt_cd 181 1 = some (.getfield 154) := by decide +kernel
theorem cd_181_4 : mt_cd 181 4 = some (.aload_n 0) := by decide +kernel
theorem cd_181_5 : mt_cd 181 5 = some (.getfield 490) := by decide +kernel
theorem cd_181_8 : mt_cd 181 8 = some (.iload_n 1) := by decide +kernel
theorem cd_181_9 : mt_cd 181 9 = some (.iastore) := by decide +kernel
theorem cd_181_10 : mt_cd 181 10 = some (.aload_n 0) := by decide +kernel
theorem cd_181_11 : mt_cd 181 11 = some (.getfield 157) := by decide +kernel
theorem cd_181_14 : mt_cd 181 14 = some (.aload_n 0) := by decide +kernel
theorem cd_181_15 : mt_cd 181 15 = some (.dup) := by decide +kernel
theorem cd_181_16 : mt_cd 181 16 = some (.getfield 490) := by decide +kernel
theorem cd_181_19 : mt_cd 181 19 = some (.dup_x1) := by decide +kernel
theorem cd_181_20 : mt_cd 181 20 = some (.iconst 1) := by decide +kernel
theorem cd_181_21 : mt_cd 181 21 = some (.iadd) := by decide +kernel
theorem cd_181_22 : mt_cd 181 22 = some (.putfield 490) := by decide +kernel
theorem cd_181_25 : mt_cd 181 25 = some (.iload_n 2) := by decide +kernel
theorem cd_181_26 : mt_cd 181 26 = some (.iastore) := by decide +kernel
theorem cd_181_27 : mt_cd 181 27 = some (.return_) := by decide +kernel
theorem b_181_0 {d : Nat} {Q : (Option Value ⊕ Nat) → mi_H → Prop} (n sl : Nat) (f : Nat → mi_C) {l1 : Nat} {l2 : Int32} {l3 : Int32} {fs4 : List Value} {x7 : Nat} {fs9 : List Value} {x12 : Int32} (m14 i14 : Nat) (g14 : Nat → Int32) {fs18 : List Value} {x21 : Nat} {fs23 : List Value} {x26 : Int32} {fs28 : List Value} (m32 i32 : Nat) (g32 : Nat → Int32) (h5 : f l1 = .inr (12, fs4)) (h6 : l1 < n) (h8 : fs4[49]? = some (.ref x7)) (h10 : f l1 = .inr (12, fs9)) (h11 : l1 < n) (h13 : fs9[47]? = some (.int x12)) (h15 : f x7 = .inl (0, m14, .inl g14)) (h16 : x7 < n) (h17 : mi_ix x12 m14 i14) (h19 : (va_up f x7 (.inl (0, m14, .inl (upd g14 i14 l2)))) l1 = .inr (12, fs18)) (h20 : l1 < n) (h22 : fs18[50]? = some (.ref x21)) (h24 : (va_up f x7 (.inl (0, m14, .inl (upd g14 i14 l2)))) l1 = .inr (12, fs23)) (h25 : l1 < n) (h27 : fs23[47]? = some (.int x26)) (h29 : (va_up f x7 (.inl (0, m14, .inl (upd g14 i14 l2)))) l1 = .inr (12, fs28)) (h30 : l1 < n) (h31 : 47 < fs28.length) (h33 : (va_up (va_up f x7 (.inl (0, m14, .inl (upd g14 i14 l2)))) l1 (.inr (12, fs28.set 47 (.int (x26 + 1))))) x21 = .inl (0, m32, .inl g32)) (h34 : x21 < n) (h35 : mi_ix x26 m32 i32) (h36 : Q (.inl none) (n, sl, (va_up (va_up (va_up f x7 (.inl (0, m14, .inl (upd g14 i14 l2)))) l1 (.inr (12, fs28.set 47 (.int (x26 + 1))))) x21 (.inl (0, m32, .inl (upd g32 i32 l3)))))) : mi_W d 181 0 [some (.ref l1), some (.int l2), some (.int l3)] [] (n, sl, f) Q := by
  refine w_aload_n cd_181_0 rfl ?_
  refine w_getfield cd_181_1 (show mt_f 12 154 = some (12, 49) by decide +kernel) h5 h6 h8 ?_
  refine w_aload_n cd_181_4 rfl ?_
  refine w_getfield cd_181_5 (show mt_f 12 490 = some (12, 47) by decide +kernel) h10 h11 h13 ?_
  refine w_iload_n cd_181_8 rfl ?_
  refine w_iastore cd_181_9 h15 h16 h17 ?_
  refine w_aload_n cd_181_10 rfl ?_
  refine w_getfield cd_181_11 (show mt_f 12 157 = some (12, 50) by decide +kernel) h19 h20 h22 ?_
  refine w_aload_n cd_181_14 rfl ?_
  refine w_dup_r cd_181_15 ?_
  refine w_getfield cd_181_16 (show mt_f 12 490 = some (12, 47) by decide +kernel) h24 h25 h27 ?_
  refine w_dup_x1_ir cd_181_19 ?_
  refine w_iconst (v := 1) cd_181_20 (by decide) ?_
  refine w_iadd cd_181_21 ?_
  refine w_putfield (w := .int (x26 + 1)) cd_181_22 (show mt_f 12 490 = some (12, 47) by decide +kernel) h29 h30 ⟨h31, rfl, Or.inl (by decide)⟩ ?_
  refine w_iload_n cd_181_25 rfl ?_
  refine w_iastore cd_181_26 h33 h34 h35 ?_
  exact w_return cd_181_27 (by decide +kernel) h36
/-! MarloweHostModel.take(I)I -/
theorem cd_182_0 : mt_cd 182 0 = some (.aload_n 0) := by decide +kernel
theorem cd_182_1 : mt_cd 182 1 = some (.getfield 445) := by decide +kernel
theorem cd_182_4 : mt_cd 182 4 = some (.getfield 496) := by decide +kernel
theorem cd_182_7 : mt_cd 182 7 = some (.istore_n 2) := by decide +kernel
theorem cd_182_8 : mt_cd 182 8 = some (.aload_n 0) := by decide +kernel
theorem cd_182_9 : mt_cd 182 9 = some (.getfield 77) := by decide +kernel
theorem cd_182_12 : mt_cd 182 12 = some (.iload_n 2) := by decide +kernel
theorem cd_182_13 : mt_cd 182 13 = some (.iaload) := by decide +kernel
theorem cd_182_14 : mt_cd 182 14 = some (.iconst 4) := by decide +kernel
theorem cd_182_15 : mt_cd 182 15 = some (.if_icmp .eq 5) := by decide +kernel
theorem cd_182_18 : mt_cd 182 18 = some (.iconst 4) := by decide +kernel
theorem cd_182_19 : mt_cd 182 19 = some (.ireturn) := by decide +kernel
theorem cd_182_20 : mt_cd 182 20 = some (.aload_n 0) := by decide +kernel
theorem cd_182_21 : mt_cd 182 21 = some (.getfield 92) := by decide +kernel
theorem cd_182_24 : mt_cd 182 24 = some (.iload_n 2) := by decide +kernel
theorem cd_182_25 : mt_cd 182 25 = some (.iaload) := by decide +kernel
theorem cd_182_26 : mt_cd 182 26 = some (.istore_n 3) := by decide +kernel
theorem cd_182_27 : mt_cd 182 27 = some (.iload_n 3) := by decide +kernel
theorem cd_182_28 : mt_cd 182 28 = some (.ifCond .lt 264) := by decide +kernel
theorem cd_182_31 : mt_cd 182 31 = some (.aload_n 0) := by decide +kernel
theorem cd_182_32 : mt_cd 182 32 = some (.iload_n 3) := by decide +kernel
theorem cd_182_33 : mt_cd 182 33 = some (.iload_n 1) := by decide +kernel
theorem cd_182_34 : mt_cd 182 34 = some (.invokevirtual 509) := by decide +kernel
theorem cd_182_37 : mt_cd 182 37 = some (.istore 4) := by decide +kernel
theorem cd_182_39 : mt_cd 182 39 = some (.iload 4) := by decide +kernel
theorem cd_182_41 : mt_cd 182 41 = some (.iconst 1) := by decide +kernel
theorem cd_182_42 : mt_cd 182 42 = some (.if_icmp .le 6) := by decide +kernel
theorem cd_182_45 : mt_cd 182 45 = some (.iload 4) := by decide +kernel
theorem cd_182_47 : mt_cd 182 47 = some (.ireturn) := by decide +kernel
theorem cd_182_48 : mt_cd 182 48 = some (.iload 4) := by decide +kernel
theorem cd_182_50 : mt_cd 182 50 = some (.ifCond .ne 6) := by decide +kernel
theorem cd_182_53 : mt_cd 182 53 = some (.goto 229) := by decide +kernel
theorem cd_182_56 : mt_cd 182 56 = some (.aload_n 0) := by decide +kernel
theorem cd_182_57 : mt_cd 182 57 = some (.getfield 77) := by decide +kernel
theorem cd_182_60 : mt_cd 182 60 = some (.iload_n 3) := by decide +kernel
theorem cd_182_61 : mt_cd 182 61 = some (.iaload) := by decide +kernel
theorem cd_182_62 : mt_cd 182 62 = some (.bipush 7) := by decide +kernel
theorem cd_182_64 : mt_cd 182 64 = some (.if_icmp .ne 157) := by decide +kernel
theorem cd_182_67 : mt_cd 182 67 = some (.aload_n 0) := by decide +kernel
theorem cd_182_68 : mt_cd 182 68 = some (.getfield 190) := by decide +kernel
theorem cd_182_71 : mt_cd 182 71 = some (.iload_n 1) := by decide +kernel
theorem cd_182_72 : mt_cd 182 72 = some (.laload) := by decide +kernel
theorem cd_182_73 : mt_cd 182 73 = some (.lstore 5) := by decide +kernel
theorem cd_182_75 : mt_cd 182 75 = some (.iconst 4) := by decide +kernel
theorem cd_182_76 : mt_cd 182 76 = some (.aload_n 0) := by decide +kernel
theorem cd_182_77 : mt_cd 182 77 = some (.getfield 80) := by decide +kernel
theorem cd_182_80 : mt_cd 182 80 = some (.iload_n 3) := by decide +kernel
theorem cd_182_81 : mt_cd 182 81 = some (.iaload) := by decide +kernel
theorem cd_182_82 : mt_cd 182 82 = some (.imul) := by decide +kernel
theorem cd_182_83 : mt_cd 182 83 = some (.aload_n 0) := by decide +kernel
theorem cd_182_84 : mt_cd 182 84 = some (.getfield 86) := by decide +kernel
theorem cd_182_87 : mt_cd 182 87 = some (.iload_n 3) := by decide +kernel
theorem cd_182_88 : mt_cd 182 88 = some (.iaload) := by decide +kernel
theorem cd_182_89 : mt_cd 182 89 = some (.iadd) := by decide +kernel
theorem cd_182_90 : mt_cd 182 90 = some (.istore 7) := by decide +kernel
theorem cd_182_92 : mt_cd 182 92 = some (.iconst 4) := by decide +kernel
theorem cd_182_93 : mt_cd 182 93 = some (.aload_n 0) := by decide +kernel
theorem cd_182_94 : mt_cd 182 94 = some (.getfield 83) := by decide +kernel
theorem cd_182_97 : mt_cd 182 97 = some (.iload_n 3) := by decide +kernel
theorem cd_182_98 : mt_cd 182 98 = some (.iaload) := by decide +kernel
theorem cd_182_99 : mt_cd 182 99 = some (.imul) := by decide +kernel
theorem cd_182_100 : mt_cd 182 100 = some (.aload_n 0) := by decide +kernel
theorem cd_182_101 : mt_cd 182 101 = some (.getfield 86) := by decide +kernel
theorem cd_182_104 : mt_cd 182 104 = some (.iload_n 3) := by decide +kernel
theorem cd_182_105 : mt_cd 182 105 = some (.iaload) := by decide +kernel
theorem cd_182_106 : mt_cd 182 106 = some (.iadd) := by decide +kernel
theorem cd_182_107 : mt_cd 182 107 = some (.istore 8) := by decide +kernel
theorem cd_182_109 : mt_cd 182 109 = some (.lload 5) := by decide +kernel
theorem cd_182_111 : mt_cd 182 111 = some (.lconst 0) := by decide +kernel
theorem cd_182_112 : mt_cd 182 112 = some (.lcmp) := by decide +kernel
theorem cd_182_113 : mt_cd 182 113 = some (.ifCond .gt 12) := by decide +kernel
theorem cd_182_116 : mt_cd 182 116 = some (.aload_n 0) := by decide +kernel
theorem cd_182_117 : mt_cd 182 117 = some (.iconst 1) := by decide +kernel
theorem cd_182_118 : mt_cd 182 118 = some (.iload_n 3) := by decide +kernel
theorem cd_182_119 : mt_cd 182 119 = some (.invokevirtual 502) := by decide +kernel
theorem cd_182_122 : mt_cd 182 122 = some (.goto 96) := by decide +kernel
theorem cd_182_125 : mt_cd 182 125 = some (.aload_n 0) := by decide +kernel
theorem cd_182_126 : mt_cd 182 126 = some (.getfield 513) := by decide +kernel
theorem cd_182_129 : mt_cd 182 129 = some (.ifCond .eq 27) := by decide +kernel
theorem cd_182_132 : mt_cd 182 132 = some (.aload_n 0) := by decide +kernel
theorem cd_182_133 : mt_cd 182 133 = some (.getfield 175) := by decide +kernel
theorem cd_182_136 : mt_cd 182 136 = some (.iload 8) := by decide +kernel
theorem cd_182_138 : mt_cd 182 138 = some (.laload) := by decide +kernel
theorem cd_182_139 : mt_cd 182 139 = some (.aload_n 0) := by decide +kernel
theorem cd_182_140 : mt_cd 182 140 = some (.getfield 172) := by decide +kernel
theorem cd_182_143 : mt_cd 182 143 = some (.iload 8) := by decide +kernel
theorem cd_182_145 : mt_cd 182 145 = some (.laload) := by decide +kernel
theorem cd_182_146 : mt_cd 182 146 = some (.lsub) := by decide +kernel
theorem cd_182_147 : mt_cd 182 147 = some (.lload 5) := by decide +kernel
theorem cd_182_149 : mt_cd 182 149 = some (.lcmp) := by decide +kernel
theorem cd_182_150 : mt_cd 182 150 = some (.ifCond .ge 6) := by decide +kernel
theorem cd_182_153 : mt_cd 182 153 = some (.bipush 7) := by decide +kernel
theorem cd_182_155 : mt_cd 182 155 = some (.ireturn) := by decide +kernel
theorem cd_182_156 : mt_cd 182 156 = some (.aload_n 0) := by decide +kernel
theorem cd_182_157 : mt_cd 182 157 = some (.getfield 172) := by decide +kernel
theorem cd_182_160 : mt_cd 182 160 = some (.iload 8) := by decide +kernel
theorem cd_182_162 : mt_cd 182 162 = some (.dup2) := by decide +kernel
theorem cd_182_163 : mt_cd 182 163 = some (.laload) := by decide +kernel
theorem cd_182_164 : mt_cd 182 164 = some (.lload 5) := by decide +kernel
theorem cd_182_166 : mt_cd 182 166 = some (.ladd) := by decide +kernel
theorem cd_182_167 : mt_cd 182 167 = some (.lastore) := by decide +kernel
theorem cd_182_168 : mt_cd 182 168 = some (.aload_n 0) := by decide +kernel
theorem cd_182_169 : mt_cd 182 169 = some (.getfield 445) := by decide +kernel
theorem cd_182_172 : mt_cd 182 172 = some (.getfield 448) := by decide +kernel
theorem cd_182_175 : mt_cd 182 175 = some (.iload 7) := by decide +kernel
theorem cd_182_177 : mt_cd 182 177 = some (.dup2) := by decide +kernel
theorem cd_182_178 : mt_cd 182 178 = some (.laload) := by decide +kernel
theorem cd_182_179 : mt_cd 182 179 = some (.lload 5) := by decide +kernel
theorem cd_182_181 : mt_cd 182 181 = some (.ladd) := by decide +kernel
theorem cd_182_182 : mt_cd 182 182 = some (.lastore) := by decide +kernel
theorem cd_182_183 : mt_cd 182 183 = some (.aload_n 0) := by decide +kernel
theorem cd_182_184 : mt_cd 182 184 = some (.getfield 445) := by decide +kernel
theorem cd_182_187 : mt_cd 182 187 = some (.getfield 448) := by decide +kernel
theorem cd_182_190 : mt_cd 182 190 = some (.iload 7) := by decide +kernel
theorem cd_182_192 : mt_cd 182 192 = some (.laload) := by decide +kernel
theorem cd_182_193 : mt_cd 182 193 = some (.ldc2_w 437) := by decide +kernel
theorem cd_182_196 : mt_cd 182 196 = some (.lcmp) := by decide +kernel
theorem cd_182_197 : mt_cd 182 197 = some (.ifCond .gt 18) := by decide +kernel
theorem cd_182_200 : mt_cd 182 200 = some (.aload_n 0) := by decide +kernel
theorem cd_182_201 : mt_cd 182 201 = some (.getfield 445) := by decide +kernel
theorem cd_182_204 : mt_cd 182 204 = some (.getfield 448) := by decide +kernel
theorem cd_182_207 : mt_cd 182 207 = some (.iload 7) := by decide +kernel
theorem cd_182_209 : mt_cd 182 209 = some (.laload) := by decide +kernel
theorem cd_182_210 : mt_cd 182 210 = some (.lconst 0) := by decide +kernel
theorem cd_182_211 : mt_cd 182 211 = some (.lcmp) := by decide +kernel
theorem cd_182_212 : mt_cd 182 212 = some (.ifCond .ge 6) := by decide +kernel
theorem cd_182_215 : mt_cd 182 215 = some (.bipush 6) := by decide +kernel
theorem cd_182_217 : mt_cd 182 217 = some (.ireturn) := by decide +kernel
theorem cd_182_218 : mt_cd 182 218 = some (.goto 49) := by decide +kernel
theorem cd_182_221 : mt_cd 182 221 = some (.aload_n 0) := by decide +kernel
theorem cd_182_222 : mt_cd 182 222 = some (.getfield 77) := by decide +kernel
theorem cd_182_225 : mt_cd 182 225 = some (.iload_n 3) := by decide +kernel
theorem cd_182_226 : mt_cd 182 226 = some (.iaload) := by decide +kernel
theorem cd_182_227 : mt_cd 182 227 = some (.bipush 8) := by decide +kernel
theorem cd_182_229 : mt_cd 182 229 = some (.if_icmp .ne 38) := by decide +kernel
theorem cd_182_232 : mt_cd 182 232 = some (.aload_n 0) := by decide +kernel
theorem cd_182_233 : mt_cd 182 233 = some (.getfield 445) := by decide +kernel
theorem cd_182_236 : mt_cd 182 236 = some (.getfield 459) := by decide +kernel
theorem cd_182_239 : mt_cd 182 239 = some (.aload_n 0) := by decide +kernel
theorem cd_182_240 : mt_cd 182 240 = some (.getfield 80) := by decide +kernel
theorem cd_182_243 : mt_cd 182 243 = some (.iload_n 3) := by decide +kernel
theorem cd_182_244 : mt_cd 182 244 = some (.iaload) := by decide +kernel
theorem cd_182_245 : mt_cd 182 245 = some (.iconst 1) := by decide +kernel
theorem cd_182_246 : mt_cd 182 246 = some (.bastore) := by decide +kernel
theorem cd_182_247 : mt_cd 182 247 = some (.aload_n 0) := by decide +kernel
theorem cd_182_248 : mt_cd 182 248 = some (.getfield 445) := by decide +kernel
theorem cd_182_251 : mt_cd 182 251 = some (.getfield 463) := by decide +kernel
theorem cd_182_254 : mt_cd 182 254 = some (.aload_n 0) := by decide +kernel
theorem cd_182_255 : mt_cd 182 255 = some (.getfield 80) := by decide +kernel
theorem cd_182_258 : mt_cd 182 258 = some (.iload_n 3) := by decide +kernel
theorem cd_182_259 : mt_cd 182 259 = some (.iaload) := by decide +kernel
theorem cd_182_260 : mt_cd 182 260 = some (.aload_n 0) := by decide +kernel
theorem cd_182_261 : mt_cd 182 261 = some (.getfield 190) := by decide +kernel
theorem cd_182_264 : mt_cd 182 264 = some (.iload_n 1) := by decide +kernel
theorem cd_182_265 : mt_cd 182 265 = some (.laload) := by decide +kernel
theorem cd_182_266 : mt_cd 182 266 = some (.lastore) := by decide +kernel
theorem cd_182_267 : mt_cd 182 267 = some (.aload_n 0) := by decide +kernel
theorem cd_182_268 : mt_cd 182 268 = some (.getfield 445) := by decide +kernel
theorem cd_182_271 : mt_cd 182 271 = some (.aload_n 0) := by decide +kernel
theorem cd_182_272 : mt_cd 182 272 = some (.getfield 98) := by decide +kernel
theorem cd_182_275 : mt_cd 182 275 = some (.iload_n 3) := by decide +kernel
theorem cd_182_276 : mt_cd 182 276 = some (.iaload) := by decide +kernel
theorem cd_182_277 : mt_cd 182 277 = some (.putfield 496) := by decide +kernel
theorem cd_182_280 : mt_cd 182 280 = some (.iconst 0) := by decide +kernel
theorem cd_182_281 : mt_cd 182 281 = some (.ireturn) := by decide +kernel
theorem cd_182_282 : mt_cd 182 282 = some (.aload_n 0) := by decide +kernel
theorem cd_182_283 : mt_cd 182 283 = some (.getfield 138) := by decide +kernel
theorem cd_182_286 : mt_cd 182 286 = some (.iload_n 3) := by decide +kernel
theorem cd_182_287 : mt_cd 182 287 = some (.iaload) := by decide +kernel
theorem cd_182_288 : mt_cd 182 288 = some (.istore_n 3) := by decide +kernel
theorem cd_182_289 : mt_cd 182 289 = some (.goto (-262)) := by decide +kernel
theorem cd_182_292 : mt_cd 182 292 = some (.iconst 4) := by decide +kernel
theorem cd_182_293 : mt_cd 182 293 = some (.ireturn) := by decide +kernel
theorem b_182_0 {d : Nat} {Q : (Option Value ⊕ Nat) → mi_H → Prop} (n sl : Nat) (f : Nat → mi_C) {l1 : Nat} {l2 : Int32} {o3 : Option Value} {o4 : Option Value} {o5 : Option Value} {o6 : Option Value} {o7 : Option Value} {o8 : Option Value} {o9 : Option Value} {fs10 : List Value} {x13 : Nat} {fs15 : List Value} {x18 : Int32} {fs20 : List Value} {x23 : Nat} (m25 i25 : Nat) (g25 : Nat → Int32) (h11 : f l1 = .inr (12, fs10)) (h12 : l1 < n) (h14 : fs10[43]? = some (.ref x13)) (h16 : f x13 = .inr (13, fs15)) (h17 : x13 < n) (h19 : fs15[0]? = some (.int x18)) (h21 : f l1 = .inr (12, fs20)) (h22 : l1 < n) (h24 : fs20[12]? = some (.ref x23)) (h26 : f x23 = .inl (0, m25, .inl g25)) (h27 : x23 < n ∨ x23 = mi_SC) (h28 : mi_ix x18 m25 i25) (h29 : (g25 i25) = 4 → mi_W d 182 20 [some (.ref l1), some (.int l2), some (.int x18), o4, o5, o6, o7, o8, o9] [] (n, sl, f) Q) (h30 : ¬ ((g25 i25) = 4) → mi_W d 182 18 [some (.ref l1), some (.int l2), some (.int x18), o4, o5, o6, o7, o8, o9] [] (n, sl, f) Q) : mi_W d 182 0 [some (.ref l1), some (.int l2), o3, o4, o5, o6, o7, o8, o9] [] (n, sl, f) Q := by
  refine w_aload_n cd_182_0 rfl ?_
  refine w_getfield cd_182_1 (show mt_f 12 445 = some (12, 43) by decide +kernel) h11 h12 h14 ?_
  refine w_getfield cd_182_4 (show mt_f 12 496 = some (13, 0) by decide +kernel) h16 h17 h19 ?_
  refine w_istore_n (ls' := [some (.ref l1), some (.int l2), some (.int x18), o4, o5, o6, o7, o8, o9]) cd_182_7 (Nat.le_of_ble_eq_true rfl) rfl ?_
  refine w_aload_n cd_182_8 rfl ?_
  refine w_getfield cd_182_9 (show mt_f 12 77 = some (12, 12) by decide +kernel) h21 h22 h24 ?_
  refine w_iload_n cd_182_12 rfl ?_
  refine w_iaload cd_182_13 h26 h27 h28 ?_
  refine w_iconst (v := 4) cd_182_14 (by decide) ?_
  exact w_if_icmpeq cd_182_15 (by decide) h29 h30
theorem b_182_18 {d : Nat} {Q : (Option Value ⊕ Nat) → mi_H → Prop} (n sl : Nat) (f : Nat → mi_C) {l1 : Nat} {l2 : Int32} {l3 : Int32} {o4 : Option Value} {o5 : Option Value} {o6 : Option Value} {o7 : Option Value} {o8 : Option Value} {o9 : Option Value} (h10 : Q (.inl (some (.int 4))) (n, sl, f)) : mi_W d 182 18 [some (.ref l1), some (.int l2), some (.int l3), o4, o5, o6, o7, o8, o9] [] (n, sl, f) Q := by
  refine w_iconst (v := 4) cd_182_18 (by decide) ?_
  exact w_ireturn_i cd_182_19 (by decide +kernel) h10
theorem b_182_20 {d : Nat} {Q : (Option Value ⊕ Nat) → mi_H → Prop} (n sl : Nat) (f : Nat → mi_C) {l1 : Nat} {l2 : Int32} {l3 : Int32} {o4 : Option Value} {o5 : Option Value} {o6 : Option Value} {o7 : Option Value} {o8 : Option Value} {o9 : Option Value} {fs10 : List Value} {x13 : Nat} (m15 i15 : Nat) (g15 : Nat → Int32) (h11 : f l1 = .inr (12, fs10)) (h12 : l1 < n) (h14 : fs10[17]? = some (.ref x13)) (h16 : f x13 = .inl (0, m15, .inl g15)) (h17 : x13 < n ∨ x13 = mi_SC) (h18 : mi_ix l3 m15 i15) (h19 : mi_W d 182 27 [some (.ref l1), some (.int l2), some (.int l3), some (.int (g15 i15)), o5, o6, o7, o8, o9] [] (n, sl, f) Q) : mi_W d 182 20 [some (.ref l1), some (.int l2), some (.int l3), o4, o5, o6, o7, o8, o9] [] (n, sl, f) Q := by
  refine w_aload_n cd_182_20 rfl ?_
  refine w_getfield cd_182_21 (show mt_f 12 92 = some (12, 17) by decide +kernel) h11 h12 h14 ?_
  refine w_iload_n cd_182_24 rfl ?_
  refine w_iaload cd_182_25 h16 h17 h18 ?_
  refine w_istore_n (ls' := [some (.ref l1), some (.int l2), some (.int l3), some (.int (g15 i15)), o5, o6, o7, o8, o9]) cd_182_26 (Nat.le_of_ble_eq_true rfl) rfl ?_
  exact h19
theorem b_182_27 {d : Nat} {Q : (Option Value ⊕ Nat) → mi_H → Prop} (n sl : Nat) (f : Nat → mi_C) {l1 : Nat} {l2 : Int32} {l3 : Int32} {l4 : Int32} {o5 : Option Value} {o6 : Option Value} {o7 : Option Value} {o8 : Option Value} {o9 : Option Value} (h10 : l4 < (0 : Int32) → mi_W d 182 292 [some (.ref l1), some (.int l2), some (.int l3), some (.int l4), o5, o6, o7, o8, o9] [] (n, sl, f) Q) (h11 : ¬ (l4 < (0 : Int32)) → mi_W d 182 31 [some (.ref l1), some (.int l2), some (.int l3), some (.int l4), o5, o6, o7, o8, o9] [] (n, sl, f) Q) : mi_W d 182 27 [some (.ref l1), some (.int l2), some (.int l3), some (.int l4), o5, o6, o7, o8, o9] [] (n, sl, f) Q := by
  refine w_iload_n cd_182_27 rfl ?_
  exact w_iflt cd_182_28 (by decide) h10 h11
theorem b_182_31 {d : Nat} {Q : (Option Value ⊕ Nat) → mi_H → Prop} (n sl : Nat) (f : Nat → mi_C) {l1 : Nat} {l2 : Int32} {l3 : Int32} {l4 : Int32} {o5 : Option Value} {o6 : Option Value} {o7 : Option Value} {o8 : Option Value} {o9 : Option Value} {fs10 : List Value} (h11 : f l1 = .inr (12, fs10)) (h12 : l1 < n) (h13 : mi_W d 183 0 (mi_en 5 [.ref l1, .int l4, .int l2]) [] (n, sl, f) (mi_Kc d 182 34 [some (.ref l1), some (.int l2), some (.int l3), some (.int l4), o5, o6, o7, o8, o9] [] Q)) : mi_W (d + 1) 182 31 [some (.ref l1), some (.int l2), some (.int l3), some (.int l4), o5, o6, o7, o8, o9] [] (n, sl, f) Q := by
  refine w_aload_n cd_182_31 rfl ?_
  refine w_iload_n cd_182_32 rfl ?_
  refine w_iload_n cd_182_33 rfl ?_
  exact w_invokevirtual cd_182_34 (show mt_m 12 509 = some (183, 0) by decide +kernel) (rest := []) rfl (as := [.ref l1, .int l4, .int l2]) rfl h11 (Or.inl h12) ⟨Nat.le_of_ble_eq_true rfl, Nat.le_of_ble_eq_true rfl, Nat.le_of_ble_eq_true rfl⟩ h13
theorem b_182_37 {d : Nat} {Q : (Option Value ⊕ Nat) → mi_H → Prop} (n sl : Nat) (f : Nat → mi_C) {l1 : Nat} {l2 : Int32} {l3 : Int32} {l4 : Int32} {o5 : Option Value} {o6 : Option Value} {o7 : Option Value} {o8 : Option Value} {o9 : Option Value} {s10 : Int32} (h11 : s10 ≤ 1 → mi_W d 182 48 [some (.ref l1), some (.int l2), some (.int l3), some (.int l4), some (.int s10), o6, o7, o8, o9] [] (n, sl, f) Q) (h12 : ¬ (s10 ≤ 1) → mi_W d 182 45 [some (.ref l1), some (.int l2), some (.int l3), some (.int l4), some (.int s10), o6, o7, o8, o9] [] (n, sl, f) Q) : mi_W d 182 37 [some (.ref l1), some (.int l2), some (.int l3), some (.int l4), o5, o6, o7, o8, o9] [.int s10] (n, sl, f) Q := by
  refine w_istore (ls' := [some (.ref l1), some (.int l2), some (.int l3), some (.int l4), some (.int s10), o6, o7, o8, o9]) cd_182_37 (Nat.le_of_ble_eq_true rfl) rfl ?_
  refine w_iload cd_182_39 rfl ?_
  refine w_iconst (v := 1) cd_182_41 (by decide) ?_
  exact w_if_icmple cd_182_42 (by decide) h11 h12
theorem b_182_45 {d : Nat} {Q : (Option Value ⊕ Nat) → mi_H → Prop} (n sl : Nat) (f : Nat → mi_C) {l1 : Nat} {l2 : Int32} {l3 : Int32} {l4 : Int32} {l5 : Int32} {o6 : Option Value} {o7 : Option Value} {o8 : Option Value} {o9 : Option Value} (h10 : Q (.inl (some (.int l5))) (n, sl, f)) : mi_W d 182 45 [some (.ref l1), some (.int l2), some (.int l3), some (.int l4), some (.int l5), o6, o7, o8, o9] [] (n, sl, f) Q := by
  refine w_iload cd_182_45 rfl ?_
  exact w_ireturn_i cd_182_47 (by decide +kernel) h10
theorem b_182_48 {d : Nat} {Q : (Option Value ⊕ Nat) → mi_H → Prop} (n sl : Nat) (f : Nat → mi_C) {l1 : Nat} {l2 : Int32} {l3 : Int32} {l4 : Int32} {l5 : Int32} {o6 : Option Value} {o7 : Option Value} {o8 : Option Value} {o9 : Option Value} (h10 : ¬ l5 = (0 : Int32) → mi_W d 182 56 [some (.ref l1), some (.int l2), some (.int l3), some (.int l4), some (.int l5), o6, o7, o8, o9] [] (n, sl, f) Q) (h11 : ¬ (¬ l5 = (0 : Int32)) → mi_W d 182 53 [some (.ref l1), some (.int l2), some (.int l3), some (.int l4), some (.int l5), o6, o7, o8, o9] [] (n, sl, f) Q) : mi_W d 182 48 [some (.ref l1), some (.int l2), some (.int l3), some (.int l4), some (.int l5), o6, o7, o8, o9] [] (n, sl, f) Q := by
  refine w_iload cd_182_48 rfl ?_
  exact w_ifne cd_182_50 (by decide) h10 h11
theorem b_182_53 {d : Nat} {Q : (Option Value ⊕ Nat) → mi_H → Prop} (n sl : Nat) (f : Nat → mi_C) {l1 : Nat} {l2 : Int32} {l3 : Int32} {l4 : Int32} {l5 : Int32} {o6 : Option Value} {o7 : Option Value} {o8 : Option Value} {o9 : Option Value} (h10 : mi_W d 182 282 [some (.ref l1), some (.int l2), some (.int l3), some (.int l4), some (.int l5), o6, o7, o8, o9] [] (n, sl, f) Q) : mi_W d 182 53 [some (.ref l1), some (.int l2), some (.int l3), some (.int l4), some (.int l5), o6, o7, o8, o9] [] (n, sl, f) Q := by
  exact w_goto cd_182_53 (by decide) h10
theorem b_182_56 {d : Nat} {Q : (Option Value ⊕ Nat) → mi_H → Prop} (n sl : Nat) (f : Nat → mi_C) {l1 : Nat} {l2 : Int32} {l3 : Int32} {l4 : Int32} {l5 : Int32} {o6 : Option Value} {o7 : Option Value} {o8 : Option Value} {o9 : Option Value} {fs10 : List Value} {x13 : Nat} (m15 i15 : Nat) (g15 : Nat → Int32) (h11 : f l1 = .inr (12, fs10)) (h12 : l1 < n) (h14 : fs10[12]? = some (.ref x13)) (h16 : f x13 = .inl (0, m15, .inl g15)) (h17 : x13 < n ∨ x13 = mi_SC) (h18 : mi_ix l4 m15 i15) (h19 : ¬ (g15 i15) = 7 → mi_W d 182 221 [some (.ref l1), some (.int l2), some (.int l3), some (.int l4), some (.int l5), o6, o7, o8, o9] [] (n, sl, f) Q) (h20 : ¬ (¬ (g15 i15) = 7) → mi_W d 182 67 [some (.ref l1), some (.int l2), some (.int l3), some (.int l4), some (.int l5), o6, o7, o8, o9] [] (n, sl, f) Q) : mi_W d 182 56 [some (.ref l1), some (.int l2), some (.int l3), some (.int l4), some (.int l5), o6, o7, o8, o9] [] (n, sl, f) Q := by
  refine w_aload_n cd_182_56 rfl ?_
  refine w_getfield cd_182_57 (show mt_f 12 77 = some (12, 12) by decide +kernel) h11 h12 h14 ?_
  refine w_iload_n cd_182_60 rfl ?_
  refine w_iaload cd_182_61 h16 h17 h18 ?_
  refine w_bipush (v := 7) cd_182_62 (by decide) ?_
  exact w_if_icmpne cd_182_64 (by decide) h19 h20
theorem b_182_67 {d : Nat} {Q : (Option Value ⊕ Nat) → mi_H → Prop} (n sl : Nat) (f : Nat → mi_C) {l1 : Nat} {l2 : Int32} {l3 : Int32} {l4 : Int32} {l5 : Int32} {o6 : Option Value} {o7 : Option Value} {o8 : Option Value} {o9 : Option Value} {fs10 : List Value} {x13 : Nat} (m15 i15 : Nat) (g15 : Nat → Int64) {fs19 : List Value} {x22 : Nat} (m24 i24 : Nat) (g24 : Nat → Int32) {fs28 : List Value} {x31 : Nat} (m33 i33 : Nat) (g33 : Nat → Int32) {fs37 : List Value} {x40 : Nat} (m42 i42 : Nat) (g42 : Nat → Int32) {fs46 : List Value} {x49 : Nat} (m51 i51 : Nat) (g51 : Nat → Int32) (h11 : f l1 = .inr (12, fs10)) (h12 : l1 < n) (h14 : fs10[64]? = some (.ref x13)) (h16 : f x13 = .inl (3, m15, .inr (.inl g15))) (h17 : x13 < n) (h18 : mi_ix l2 m15 i15) (h20 : f l1 = .inr (12, fs19)) (h21 : l1 < n) (h23 : fs19[13]? = some (.ref x22)) (h25 : f x22 = .inl (0, m24, .inl g24)) (h26 : x22 < n ∨ x22 = mi_SC) (h27 : mi_ix l4 m24 i24) (h29 : f l1 = .inr (12, fs28)) (h30 : l1 < n) (h32 : fs28[15]? = some (.ref x31)) (h34 : f x31 = .inl (0, m33, .inl g33)) (h35 : x31 < n ∨ x31 = mi_SC) (h36 : mi_ix l4 m33 i33) (h38 : f l1 = .inr (12, fs37)) (h39 : l1 < n) (h41 : fs37[14]? = some (.ref x40)) (h43 : f x40 = .inl (0, m42, .inl g42)) (h44 : x40 < n ∨ x40 = mi_SC) (h45 : mi_ix l4 m42 i42) (h47 : f l1 = .inr (12, fs46)) (h48 : l1 < n) (h50 : fs46[15]? = some (.ref x49)) (h52 : f x49 = .inl (0, m51, .inl g51)) (h53 : x49 < n ∨ x49 = mi_SC) (h54 : mi_ix l4 m51 i51) (h55 : (0 : Int32) < (lg_cmp (g15 i15) 0) → mi_W d 182 125 [some (.ref l1), some (.int l2), some (.int l3), some (.int l4), some (.int l5), some (.long (g15 i15)), none, some (.int ((4 * (g24 i24)) + (g33 i33))), some (.int ((4 * (g42 i42)) + (g51 i51)))] [] (n, sl, f) Q) (h56 : ¬ ((0 : Int32) < (lg_cmp (g15 i15) 0)) → mi_W d 182 116 [some (.ref l1), some (.int l2), some (.int l3), some (.int l4), some (.int l5), some (.long (g15 i15)), none, some (.int ((4 * (g24 i24)) + (g33 i33))), some (.int ((4 * (g42 i42)) + (g51 i51)))] [] (n, sl, f) Q) : mi_W d 182 67 [some (.ref l1), some (.int l2), some (.int l3), some (.int l4), some (.int l5), o6, o7, o8, o9] [] (n, sl, f) Q := by
  refine w_aload_n cd_182_67 rfl ?_
  refine w_getfield cd_182_68 (show mt_f 12 190 = some (12, 64) by decide +kernel) h11 h12 h14 ?_
  refine w_iload_n cd_182_71 rfl ?_
  refine w_laload cd_182_72 h16 h17 h18 ?_
  refine w_lstore (ls' := [some (.ref l1), some (.int l2), some (.int l3), some (.int l4), some (.int l5), some (.long (g15 i15)), none, o8, o9]) cd_182_73 (Nat.le_of_ble_eq_true rfl) rfl ?_
  refine w_iconst (v := 4) cd_182_75 (by decide) ?_
  refine w_aload_n cd_182_76 rfl ?_
  refine w_getfield cd_182_77 (show mt_f 12 80 = some (12, 13) by decide +kernel) h20 h21 h23 ?_
  refine w_iload_n cd_182_80 rfl ?_
  refine w_iaload cd_182_81 h25 h26 h27 ?_
  refine w_imul cd_182_82 ?_
  refine w_aload_n cd_182_83 rfl ?_
  refine w_getfield cd_182_84 (show mt_f 12 86 = some (12, 15) by decide +kernel) h29 h30 h32 ?_
  refine w_iload_n cd_182_87 rfl ?_
  refine w_iaload cd_182_88 h34 h35 h36 ?_
  refine w_iadd cd_182_89 ?_
  refine w_istore (ls' := [some (.ref l1), some (.int l2), some (.int l3), some (.int l4), some (.int l5), some (.long (g15 i15)), none, some (.int ((4 * (g24 i24)) + (g33 i33))), o9]) cd_182_90 (Nat.le_of_ble_eq_true rfl) rfl ?_
  refine w_iconst (v := 4) cd_182_92 (by decide) ?_
  refine w_aload_n cd_182_93 rfl ?_
  refine w_getfield cd_182_94 (show mt_f 12 83 = some (12, 14) by decide +kernel) h38 h39 h41 ?_
  refine w_iload_n cd_182_97 rfl ?_
  refine w_iaload cd_182_98 h43 h44 h45 ?_
  refine w_imul cd_182_99 ?_
  refine w_aload_n cd_182_100 rfl ?_
  refine w_getfield cd_182_101 (show mt_f 12 86 = some (12, 15) by decide +kernel) h47 h48 h50 ?_
  refine w_iload_n cd_182_104 rfl ?_
  refine w_iaload cd_182_105 h52 h53 h54 ?_
  refine w_iadd cd_182_106 ?_
  refine w_istore (ls' := [some (.ref l1), some (.int l2), some (.int l3), some (.int l4), some (.int l5), some (.long (g15 i15)), none, some (.int ((4 * (g24 i24)) + (g33 i33))), some (.int ((4 * (g42 i42)) + (g51 i51)))]) cd_182_107 (Nat.le_of_ble_eq_true rfl) rfl ?_
  refine w_lload cd_182_109 rfl ?_
  refine w_lconst (lv := 0) cd_182_111 (by decide) ?_
  refine w_lcmp cd_182_112 ?_
  exact w_ifgt cd_182_113 (by decide) h55 h56
theorem b_182_116 {d : Nat} {Q : (Option Value ⊕ Nat) → mi_H → Prop} (n sl : Nat) (f : Nat → mi_C) {l1 : Nat} {l2 : Int32} {l3 : Int32} {l4 : Int32} {l5 : Int32} {l6 : Int64} {l7 : Int32} {l8 : Int32} {fs9 : List Value} (h10 : f l1 = .inr (12, fs9)) (h11 : l1 < n) (h12 : mi_W d 181 0 (mi_en 3 [.ref l1, .int 1, .int l4]) [] (n, sl, f) (mi_Kc d 182 119 [some (.ref l1), some (.int l2), some (.int l3), some (.int l4), some (.int l5), some (.long l6), none, some (.int l7), some (.int l8)] [] Q)) : mi_W (d + 1) 182 116 [some (.ref l1), some (.int l2), some (.int l3), some (.int l4), some (.int l5), some (.long l6), none, some (.int l7), some (.int l8)] [] (n, sl, f) Q := by
  refine w_aload_n cd_182_116 rfl ?_
  refine w_iconst (v := 1) cd_182_117 (by decide) ?_
  refine w_iload_n cd_182_118 rfl ?_
  exact w_invokevirtual cd_182_119 (show mt_m 12 502 = some (181, 0) by decide +kernel) (rest := []) rfl (as := [.ref l1, .int 1, .int l4]) rfl h10 (Or.inl h11) ⟨Nat.le_of_ble_eq_true rfl, Nat.le_of_ble_eq_true rfl, Nat.le_of_ble_eq_true rfl⟩ h12
theorem b_182_122 {d : Nat} {Q : (Option Value ⊕ Nat) → mi_H → Prop} (n sl : Nat) (f : Nat → mi_C) {l1 : Nat} {l2 : Int32} {l3 : Int32} {l4 : Int32} {l5 : Int32} {l6 : Int64} {l7 : Int32} {l8 : Int32} (h9 : mi_W d 182 218 [some (.ref l1), some (.int l2), some (.int l3), some (.int l4), some (.int l5), some (.long l6), none, some (.int l7), some (.int l8)] [] (n, sl, f) Q) : mi_W d 182 122 [some (.ref l1), some (.int l2), some (.int l3), some (.int l4), some (.int l5), some (.long l6), none, some (.int l7), some (.int l8)] [] (n, sl, f) Q := by
  exact w_goto cd_182_122 (by decide) h9
theorem b_182_125 {d : Nat} {Q : (Option Value ⊕ Nat) → mi_H → Prop} (n sl : Nat) (f : Nat → mi_C) {l1 : Nat} {l2 : Int32} {l3 : Int32} {l4 : Int32} {l5 : Int32} {l6 : Int64} {l7 : Int32} {l8 : Int32} {fs9 : List Value} {x12 : Int32} (h10 : f l1 = .inr (12, fs9)) (h11 : l1 < n) (h13 : fs9[57]? = some (.int x12)) (h14 : x12 = (0 : Int32) → mi_W d 182 156 [some (.ref l1), some (.int l2), some (.int l3), some (.int l4), some (.int l5), some (.long l6), none, some (.int l7), some (.int l8)] [] (n, sl, f) Q) (h15 : ¬ (x12 = (0 : Int32)) → mi_W d 182 132 [some (.ref l1), some (.int l2), some (.int l3), some (.int l4), some (.int l5), some (.long l6), none, some (.int l7), some (.int l8)] [] (n, sl, f) Q) : mi_W d 182 125 [some (.ref l1), some (.int l2), some (.int l3), some (.int l4), some (.int l5), some (.long l6), none, some (.int l7), some (.int l8)] [] (n, sl, f) Q := by
  refine w_aload_n cd_182_125 rfl ?_
  refine w_getfield cd_182_126 (show mt_f 12 513 = some (12, 57) by decide +kernel) h10 h11 h13 ?_
  exact w_ifeq cd_182_129 (by decide) h14 h15
theorem b_182_132 {d : Nat} {Q : (Option Value ⊕ Nat) → mi_H → Prop} (n sl : Nat) (f : Nat → mi_C) {l1 : Nat} {l2 : Int32} {l3 : Int32} {l4 : Int32} {l5 : Int32} {l6 : Int64} {l7 : Int32} {l8 : Int32} {fs9 : List Value} {x12 : Nat} (m14 i14 : Nat) (g14 : Nat → Int64) {fs18 : List Value} {x21 : Nat} (m23 i23 : Nat) (g23 : Nat → Int64) (h10 : f l1 = .inr (12, fs9)) (h11 : l1 < n) (h13 : fs9[56]? = some (.ref x12)) (h15 : f x12 = .inl (3, m14, .inr (.inl g14))) (h16 : x12 < n) (h17 : mi_ix l8 m14 i14) (h19 : f l1 = .inr (12, fs18)) (h20 : l1 < n) (h22 : fs18[55]? = some (.ref x21)) (h24 : f x21 = .inl (3, m23, .inr (.inl g23))) (h25 : x21 < n) (h26 : mi_ix l8 m23 i23) (h27 : (0 : Int32) ≤ (lg_cmp ((g14 i14) - (g23 i23)) l6) → mi_W d 182 156 [some (.ref l1), some (.int l2), some (.int l3), some (.int l4), some (.int l5), some (.long l6), none, some (.int l7), some (.int l8)] [] (n, sl, f) Q) (h28 : ¬ ((0 : Int32) ≤ (lg_cmp ((g14 i14) - (g23 i23)) l6)) → mi_W d 182 153 [some (.ref l1), some (.int l2), some (.int l3), some (.int l4), some (.int l5), some (.long l6), none, some (.int l7), some (.int l8)] [] (n, sl, f) Q) : mi_W d 182 132 [some (.ref l1), some (.int l2), some (.int l3), some (.int l4), some (.int l5), some (.long l6), none, some (.int l7), some (.int l8)] [] (n, sl, f) Q := by
  refine w_aload_n cd_182_132 rfl ?_
  refine w_getfield cd_182_133 (show mt_f 12 175 = some (12, 56) by decide +kernel) h10 h11 h13 ?_
  refine w_iload cd_182_136 rfl ?_
  refine w_laload cd_182_138 h15 h16 h17 ?_
  refine w_aload_n cd_182_139 rfl ?_
  refine w_getfield cd_182_140 (show mt_f 12 172 = some (12, 55) by decide +kernel) h19 h20 h22 ?_
  refine w_iload cd_182_143 rfl ?_
  refine w_laload cd_182_145 h24 h25 h26 ?_
  refine w_lsub cd_182_146 ?_
  refine w_lload cd_182_147 rfl ?_
  refine w_lcmp cd_182_149 ?_
  exact w_ifge cd_182_150 (by decide) h27 h28
theorem b_182_153 {d : Nat} {Q : (Option Value ⊕ Nat) → mi_H → Prop} (n sl : Nat) (f : Nat → mi_C) {l1 : Nat} {l2 : Int32} {l3 : Int32} {l4 : Int32} {l5 : Int32} {l6 : Int64} {l7 : Int32} {l8 : Int32} (h9 : Q (.inl (some (.int 7))) (n, sl, f)) : mi_W d 182 153 [some (.ref l1), some (.int l2), some (.int l3), some (.int l4), some (.int l5), some (.long l6), none, some (.int l7), some (.int l8)] [] (n, sl, f) Q := by
  refine w_bipush (v := 7) cd_182_153 (by decide) ?_
  exact w_ireturn_i cd_182_155 (by decide +kernel) h9
theorem b_182_156 {d : Nat} {Q : (Option Value ⊕ Nat) → mi_H → Prop} (n sl : Nat) (f : Nat → mi_C) {l1 : Nat} {l2 : Int32} {l3 : Int32} {l4 : Int32} {l5 : Int32} {l6 : Int64} {l7 : Int32} {l8 : Int32} {fs9 : List Value} {x12 : Nat} (m14 i14 : Nat) (g14 : Nat → Int64) (m18 i18 : Nat) (g18 : Nat → Int64) {fs22 : List Value} {x25 : Nat} {fs27 : List Value} {x30 : Nat} (m32 i32 : Nat) (g32 : Nat → Int64) (m36 i36 : Nat) (g36 : Nat → Int64) {fs40 : List Value} {x43 : Nat} {fs45 : List Value} {x48 : Nat} (m50 i50 : Nat) (g50 : Nat → Int64) (h10 : f l1 = .inr (12, fs9)) (h11 : l1 < n) (h13 : fs9[55]? = some (.ref x12)) (h15 : f x12 = .inl (3, m14, .inr (.inl g14))) (h16 : x12 < n) (h17 : mi_ix l8 m14 i14) (h19 : f x12 = .inl (3, m18, .inr (.inl g18))) (h20 : x12 < n) (h21 : mi_ix l8 m18 i18) (h23 : (va_up f x12 (.inl (3, m18, .inr (.inl (vp_updL g18 i18 ((g14 i14) + l6)))))) l1 = .inr (12, fs22)) (h24 : l1 < n) (h26 : fs22[43]? = some (.ref x25)) (h28 : (va_up f x12 (.inl (3, m18, .inr (.inl (vp_updL g18 i18 ((g14 i14) + l6)))))) x25 = .inr (13, fs27)) (h29 : x25 < n) (h31 : fs27[2]? = some (.ref x30)) (h33 : (va_up f x12 (.inl (3, m18, .inr (.inl (vp_updL g18 i18 ((g14 i14) + l6)))))) x30 = .inl (3, m32, .inr (.inl g32))) (h34 : x30 < n) (h35 : mi_ix l7 m32 i32) (h37 : (va_up f x12 (.inl (3, m18, .inr (.inl (vp_updL g18 i18 ((g14 i14) + l6)))))) x30 = .inl (3, m36, .inr (.inl g36))) (h38 : x30 < n) (h39 : mi_ix l7 m36 i36) (h41 : (va_up (va_up f x12 (.inl (3, m18, .inr (.inl (vp_updL g18 i18 ((g14 i14) + l6)))))) x30 (.inl (3, m36, .inr (.inl (vp_updL g36 i36 ((g32 i32) + l6)))))) l1 = .inr (12, fs40)) (h42 : l1 < n) (h44 : fs40[43]? = some (.ref x43)) (h46 : (va_up (va_up f x12 (.inl (3, m18, .inr (.inl (vp_updL g18 i18 ((g14 i14) + l6)))))) x30 (.inl (3, m36, .inr (.inl (vp_updL g36 i36 ((g32 i32) + l6)))))) x43 = .inr (13, fs45)) (h47 : x43 < n) (h49 : fs45[2]? = some (.ref x48)) (h51 : (va_up (va_up f x12 (.inl (3, m18, .inr (.inl (vp_updL g18 i18 ((g14 i14) + l6)))))) x30 (.inl (3, m36, .inr (.inl (vp_updL g36 i36 ((g32 i32) + l6)))))) x48 = .inl (3, m50, .inr (.inl g50))) (h52 : x48 < n) (h53 : mi_ix l7 m50 i50) (h54 : (0 : Int32) < (lg_cmp (g50 i50) 4611686018427387904) → mi_W d 182 215 [some (.ref l1), some (.int l2), some (.int l3), some (.int l4), some (.int l5), some (.long l6), none, some (.int l7), some (.int l8)] [] (n, sl, (va_up (va_up f x12 (.inl (3, m18, .inr (.inl (vp_updL g18 i18 ((g14 i14) + l6)))))) x30 (.inl (3, m36, .inr (.inl (vp_updL g36 i36 ((g32 i32) + l6))))))) Q) (h55 : ¬ ((0 : Int32) < (lg_cmp (g50 i50) 4611686018427387904)) → mi_W d 182 200 [some (.ref l1), some (.int l2), some (.int l3), some (.int l4), some (.int l5), some (.long l6), none, some (.int l7), some (.int l8)] [] (n, sl, (va_up (va_up f x12 (.inl (3, m18, .inr (.inl (vp_updL g18 i18 ((g14 i14) + l6)))))) x30 (.inl (3, m36, .inr (.inl (vp_updL g36 i36 ((g32 i32) + l6))))))) Q) : mi_W d 182 156 [some (.ref l1), some (.int l2), some (.int l3), some (.int l4), some (.int l5), some (.long l6), none, some (.int l7), some (.int l8)] [] (n, sl, f) Q := by
  refine w_aload_n cd_182_156 rfl ?_
  refine w_getfield cd_182_157 (show mt_f 12 172 = some (12, 55) by decide +kernel) h10 h11 h13 ?_
  refine w_iload cd_182_160 rfl ?_
  refine w_dup2_ir cd_182_162 ?_
  refine w_laload cd_182_163 h15 h16 h17 ?_
  refine w_lload cd_182_164 rfl ?_
  refine w_ladd cd_182_166 ?_
  refine w_lastore cd_182_167 h19 h20 h21 ?_
  refine w_aload_n cd_182_168 rfl ?_
  refine w_getfield cd_182_169 (show mt_f 12 445 = some (12, 43) by decide +kernel) h23 h24 h26 ?_
  refine w_getfield cd_182_172 (show mt_f 12 448 = some (13, 2) by decide +kernel) h28 h29 h31 ?_
  refine w_iload cd_182_175 rfl ?_
  refine w_dup2_ir cd_182_177 ?_
  refine w_laload cd_182_178 h33 h34 h35 ?_
  refine w_lload cd_182_179 rfl ?_
  refine w_ladd cd_182_181 ?_
  refine w_lastore cd_182_182 h37 h38 h39 ?_
  refine w_aload_n cd_182_183 rfl ?_
  refine w_getfield cd_182_184 (show mt_f 12 445 = some (12, 43) by decide +kernel) h41 h42 h44 ?_
  refine w_getfield cd_182_187 (show mt_f 12 448 = some (13, 2) by decide +kernel) h46 h47 h49 ?_
  refine w_iload cd_182_190 rfl ?_
  refine w_laload cd_182_192 h51 h52 h53 ?_
  refine w_ldc2_w (lv := 4611686018427387904) cd_182_193 (by decide +kernel) ?_
  refine w_lcmp cd_182_196 ?_
  exact w_ifgt cd_182_197 (by decide) h54 h55
theorem b_182_200 {d : Nat} {Q : (Option Value ⊕ Nat) → mi_H → Prop} (n sl : Nat) (f : Nat → mi_C) {l1 : Nat} {l2 : Int32} {l3 : Int32} {l4 : Int32} {l5 : Int32} {l6 : Int64} {l7 : Int32} {l8 : Int32} {fs9 : List Value} {x12 : Nat} {fs14 : List Value} {x17 : Nat} (m19 i19 : Nat) (g19 : Nat → Int64) (h10 : f l1 = .inr (12, fs9)) (h11 : l1 < n) (h13 : fs9[43]? = some (.ref x12)) (h15 : f x12 = .inr (13, fs14)) (h16 : x12 < n) (h18 : fs14[2]? = some (.ref x17)) (h20 : f x17 = .inl (3, m19, .inr (.inl g19))) (h21 : x17 < n) (h22 : mi_ix l7 m19 i19) (h23 : (0 : Int32) ≤ (lg_cmp (g19 i19) 0) → mi_W d 182 218 [some (.ref l1), some (.int l2), some (.int l3), some (.int l4), some (.int l5), some (.long l6), none, some (.int l7), some (.int l8)] [] (n, sl, f) Q) (h24 : ¬ ((0 : Int32) ≤ (lg_cmp (g19 i19) 0)) → mi_W d 182 215 [some (.ref l1), some (.int l2), some (.int l3), some (.int l4), some (.int l5), some (.long l6), none, some (.int l7), some (.int l8)] [] (n, sl, f) Q) : mi_W d 182 200 [some (.ref l1), some (.int l2), some (.int l3), some (.int l4), some (.int l5), some (.long l6), none, some (.int l7), some (.int l8)] [] (n, sl, f) Q := by
  refine w_aload_n cd_182_200 rfl ?_
  refine w_getfield cd_182_201 (show mt_f 12 445 = some (12, 43) by decide +kernel) h10 h11 h13 ?_
  refine w_getfield cd_182_204 (show mt_f 12 448 = some (13, 2) by decide +kernel) h15 h16 h18 ?_
  refine w_iload cd_182_207 rfl ?_
  refine w_laload cd_182_209 h20 h21 h22 ?_
  refine w_lconst (lv := 0) cd_182_210 (by decide) ?_
  refine w_lcmp cd_182_211 ?_
  exact w_ifge cd_182_212 (by decide) h23 h24
theorem b_182_215 {d : Nat} {Q : (Option Value ⊕ Nat) → mi_H → Prop} (n sl : Nat) (f : Nat → mi_C) {l1 : Nat} {l2 : Int32} {l3 : Int32} {l4 : Int32} {l5 : Int32} {l6 : Int64} {l7 : Int32} {l8 : Int32} (h9 : Q (.inl (some (.int 6))) (n, sl, f)) : mi_W d 182 215 [some (.ref l1), some (.int l2), some (.int l3), some (.int l4), some (.int l5), some (.long l6), none, some (.int l7), some (.int l8)] [] (n, sl, f) Q := by
  refine w_bipush (v := 6) cd_182_215 (by decide) ?_
  exact w_ireturn_i cd_182_217 (by decide +kernel) h9
theorem b_182_218 {d : Nat} {Q : (Option Value ⊕ Nat) → mi_H → Prop} (n sl : Nat) (f : Nat → mi_C) {l1 : Nat} {l2 : Int32} {l3 : Int32} {l4 : Int32} {l5 : Int32} {l6 : Int64} {l7 : Int32} {l8 : Int32} (h9 : mi_W d 182 267 [some (.ref l1), some (.int l2), some (.int l3), some (.int l4), some (.int l5), some (.long l6), none, some (.int l7), some (.int l8)] [] (n, sl, f) Q) : mi_W d 182 218 [some (.ref l1), some (.int l2), some (.int l3), some (.int l4), some (.int l5), some (.long l6), none, some (.int l7), some (.int l8)] [] (n, sl, f) Q := by
  exact w_goto cd_182_218 (by decide) h9
theorem b_182_221 {d : Nat} {Q : (Option Value ⊕ Nat) → mi_H → Prop} (n sl : Nat) (f : Nat → mi_C) {l1 : Nat} {l2 : Int32} {l3 : Int32} {l4 : Int32} {l5 : Int32} {o6 : Option Value} {o7 : Option Value} {o8 : Option Value} {o9 : Option Value} {fs10 : List Value} {x13 : Nat} (m15 i15 : Nat) (g15 : Nat → Int32) (h11 : f l1 = .inr (12, fs10)) (h12 : l1 < n) (h14 : fs10[12]? = some (.ref x13)) (h16 : f x13 = .inl (0, m15, .inl g15)) (h17 : x13 < n ∨ x13 = mi_SC) (h18 : mi_ix l4 m15 i15) (h19 : ¬ (g15 i15) = 8 → mi_W d 182 267 [some (.ref l1), some (.int l2), some (.int l3), some (.int l4), some (.int l5), o6, o7, o8, o9] [] (n, sl, f) Q) (h20 : ¬ (¬ (g15 i15) = 8) → mi_W d 182 232 [some (.ref l1), some (.int l2), some (.int l3), some (.int l4), some (.int l5), o6, o7, o8, o9] [] (n, sl, f) Q) : mi_W d 182 221 [some (.ref l1), some (.int l2), some (.int l3), some (.int l4), some (.int l5), o6, o7, o8, o9] [] (n, sl, f) Q := by
  refine w_aload_n cd_182_221 rfl ?_
  refine w_getfield cd_182_222 (show mt_f 12 77 = some (12, 12) by decide +kernel) h11 h12 h14 ?_
  refine w_iload_n cd_182_225 rfl ?_
  refine w_iaload cd_182_226 h16 h17 h18 ?_
  refine w_bipush (v := 8) cd_182_227 (by decide) ?_
  exact w_if_icmpne cd_182_229 (by decide) h19 h20
theorem b_182_232 {d : Nat} {Q : (Option Value ⊕ Nat) → mi_H → Prop} (n sl : Nat) (f : Nat → mi_C) {l1 : Nat} {l2 : Int32} {l3 : Int32} {l4 : Int32} {l5 : Int32} {o6 : Option Value} {o7 : Option Value} {o8 : Option Value} {o9 : Option Value} {fs10 : List Value} {x13 : Nat} {fs15 : List Value} {x18 : Nat} {fs20 : List Value} {x23 : Nat} (m25 i25 : Nat) (g25 : Nat → Int32) (m29 i29 : Nat) (g29 : Nat → Int32) {fs33 : List Value} {x36 : Nat} {fs38 : List Value} {x41 : Nat} {fs43 : List Value} {x46 : Nat} (m48 i48 : Nat) (g48 : Nat → Int32) {fs52 : List Value} {x55 : Nat} (m57 i57 : Nat) (g57 : Nat → Int64) (m61 i61 : Nat) (g61 : Nat → Int64) (h11 : f l1 = .inr (12, fs10)) (h12 : l1 < n) (h14 : fs10[43]? = some (.ref x13)) (h16 : f x13 = .inr (13, fs15)) (h17 : x13 < n) (h19 : fs15[5]? = some (.ref x18)) (h21 : f l1 = .inr (12, fs20)) (h22 : l1 < n) (h24 : fs20[13]? = some (.ref x23)) (h26 : f x23 = .inl (0, m25, .inl g25)) (h27 : x23 < n ∨ x23 = mi_SC) (h28 : mi_ix l4 m25 i25) (h30 : f x18 = .inl (2, m29, .inl g29)) (h31 : x18 < n) (h32 : mi_ix (g25 i25) m29 i29) (h34 : (va_up f x18 (.inl (2, m29, .inl (upd g29 i29 (vp_nar .boolean 1))))) l1 = .inr (12, fs33)) (h35 : l1 < n) (h37 : fs33[43]? = some (.ref x36)) (h39 : (va_up f x18 (.inl (2, m29, .inl (upd g29 i29 (vp_nar .boolean 1))))) x36 = .inr (13, fs38)) (h40 : x36 < n) (h42 : fs38[3]? = some (.ref x41)) (h44 : (va_up f x18 (.inl (2, m29, .inl (upd g29 i29 (vp_nar .boolean 1))))) l1 = .inr (12, fs43)) (h45 : l1 < n) (h47 : fs43[13]? = some (.ref x46)) (h49 : (va_up f x18 (.inl (2, m29, .inl (upd g29 i29 (vp_nar .boolean 1))))) x46 = .inl (0, m48, .inl g48)) (h50 : x46 < n ∨ x46 = mi_SC) (h51 : mi_ix l4 m48 i48) (h53 : (va_up f x18 (.inl (2, m29, .inl (upd g29 i29 (vp_nar .boolean 1))))) l1 = .inr (12, fs52)) (h54 : l1 < n) (h56 : fs52[64]? = some (.ref x55)) (h58 : (va_up f x18 (.inl (2, m29, .inl (upd g29 i29 (vp_nar .boolean 1))))) x55 = .inl (3, m57, .inr (.inl g57))) (h59 : x55 < n) (h60 : mi_ix l2 m57 i57) (h62 : (va_up f x18 (.inl (2, m29, .inl (upd g29 i29 (vp_nar .boolean 1))))) x41 = .inl (3, m61, .inr (.inl g61))) (h63 : x41 < n) (h64 : mi_ix (g48 i48) m61 i61) (h65 : mi_W d 182 267 [some (.ref l1), some (.int l2), some (.int l3), some (.int l4), some (.int l5), o6, o7, o8, o9] [] (n, sl, (va_up (va_up f x18 (.inl (2, m29, .inl (upd g29 i29 (vp_nar .boolean 1))))) x41 (.inl (3, m61, .inr (.inl (vp_updL g61 i61 (g57 i57))))))) Q) : mi_W d 182 232 [some (.ref l1), some (.int l2), some (.int l3), some (.int l4), some (.int l5), o6, o7, o8, o9] [] (n, sl, f) Q := by
  refine w_aload_n cd_182_232 rfl ?_
  refine w_getfield cd_182_233 (show mt_f 12 445 = some (12, 43) by decide +kernel) h11 h12 h14 ?_
  refine w_getfield cd_182_236 (show mt_f 12 459 = some (13, 5) by decide +kernel) h16 h17 h19 ?_
  refine w_aload_n cd_182_239 rfl ?_
  refine w_getfield cd_182_240 (show mt_f 12 80 = some (12, 13) by decide +kernel) h21 h22 h24 ?_
  refine w_iload_n cd_182_243 rfl ?_
  refine w_iaload cd_182_244 h26 h27 h28 ?_
  refine w_iconst (v := 1) cd_182_245 (by decide) ?_
  refine w_bastore2 cd_182_246 h30 h31 h32 ?_
  refine w_aload_n cd_182_247 rfl ?_
  refine w_getfield cd_182_248 (show mt_f 12 445 = some (12, 43) by decide +kernel) h34 h35 h37 ?_
  refine w_getfield cd_182_251 (show mt_f 12 463 = some (13, 3) by decide +kernel) h39 h40 h42 ?_
  refine w_aload_n cd_182_254 rfl ?_
  refine w_getfield cd_182_255 (show mt_f 12 80 = some (12, 13) by decide +kernel) h44 h45 h47 ?_
  refine w_iload_n cd_182_258 rfl ?_
  refine w_iaload cd_182_259 h49 h50 h51 ?_
  refine w_aload_n cd_182_260 rfl ?_
  refine w_getfield cd_182_261 (show mt_f 12 190 = some (12, 64) by decide +kernel) h53 h54 h56 ?_
  refine w_iload_n cd_182_264 rfl ?_
  refine w_laload cd_182_265 h58 h59 h60 ?_
  refine w_lastore cd_182_266 h62 h63 h64 ?_
  exact h65
theorem b_182_267 {d : Nat} {Q : (Option Value ⊕ Nat) → mi_H → Prop} (n sl : Nat) (f : Nat → mi_C) {l1 : Nat} {l2 : Int32} {l3 : Int32} {l4 : Int32} {l5 : Int32} {o6 : Option Value} {o7 : Option Value} {o8 : Option Value} {o9 : Option Value} {fs10 : List Value} {x13 : Nat} {fs15 : List Value} {x18 : Nat} (m20 i20 : Nat) (g20 : Nat → Int32) {fs24 : List Value} (h11 : f l1 = .inr (12, fs10)) (h12 : l1 < n) (h14 : fs10[43]? = some (.ref x13)) (h16 : f l1 = .inr (12, fs15)) (h17 : l1 < n) (h19 : fs15[19]? = some (.ref x18)) (h21 : f x18 = .inl (0, m20, .inl g20)) (h22 : x18 < n ∨ x18 = mi_SC) (h23 : mi_ix l4 m20 i20) (h25 : f x13 = .inr (13, fs24)) (h26 : x13 < n) (h27 : 0 < fs24.length) (h28 : Q (.inl (some (.int 0))) (n, sl, (va_up f x13 (.inr (13, fs24.set 0 (.int (g20 i20))))))) : mi_W d 182 267 [some (.ref l1), some (.int l2), some (.int l3), some (.int l4), some (.int l5), o6, o7, o8, o9] [] (n, sl, f) Q := by
  refine w_aload_n cd_182_267 rfl ?_
  refine w_getfield cd_182_268 (show mt_f 12 445 = some (12, 43) by decide +kernel) h11 h12 h14 ?_
  refine w_aload_n cd_182_271 rfl ?_
  refine w_getfield cd_182_272 (show mt_f 12 98 = some (12, 19) by decide +kernel) h16 h17 h19 ?_
  refine w_iload_n cd_182_275 rfl ?_
  refine w_iaload cd_182_276 h21 h22 h23 ?_
  refine w_putfield (w := .int (g20 i20)) cd_182_277 (show mt_f 12 496 = some (13, 0) by decide +kernel) h25 h26 ⟨h27, rfl, Or.inl (by decide)⟩ ?_
  refine w_iconst (v := 0) cd_182_280 (by decide) ?_
  exact w_ireturn_i cd_182_281 (by decide +kernel) h28
theorem b_182_282 {d : Nat} {Q : (Option Value ⊕ Nat) → mi_H → Prop} (n sl : Nat) (f : Nat → mi_C) {l1 : Nat} {l2 : Int32} {l3 : Int32} {l4 : Int32} {l5 : Int32} {o6 : Option Value} {o7 : Option Value} {o8 : Option Value} {o9 : Option Value} {fs10 : List Value} {x13 : Nat} (m15 i15 : Nat) (g15 : Nat → Int32) (h11 : f l1 = .inr (12, fs10)) (h12 : l1 < n) (h14 : fs10[39]? = some (.ref x13)) (h16 : f x13 = .inl (0, m15, .inl g15)) (h17 : x13 < n ∨ x13 = mi_SC) (h18 : mi_ix l4 m15 i15) (h19 : mi_W d 182 27 [some (.ref l1), some (.int l2), some (.int l3), some (.int (g15 i15)), some (.int l5), o6, o7, o8, o9] [] (n, sl, f) Q) : mi_W d 182 282 [some (.ref l1), some (.int l2), some (.int l3), some (.int l4), some (.int l5), o6, o7, o8, o9] [] (n, sl, f) Q := by
  refine w_aload_n cd_182_282 rfl ?_
  refine w_getfield cd_182_283 (show mt_f 12 138 = some (12, 39) by decide +kernel) h11 h12 h14 ?_
  refine w_iload_n cd_182_286 rfl ?_
  refine w_iaload cd_182_287 h16 h17 h18 ?_
  refine w_istore_n (ls' := [some (.ref l1), some (.int l2), some (.int l3), some (.int (g15 i15)), some (.int l5), o6, o7, o8, o9]) cd_182_288 (Nat.le_of_ble_eq_true rfl) rfl ?_
  exact w_goto cd_182_289 (by decide) h19
theorem b_182_292 {d : Nat} {Q : (Option Value ⊕ Nat) → mi_H → Prop} (n sl : Nat) (f : Nat → mi_C) {l1 : Nat} {l2 : Int32} {l3 : Int32} {l4 : Int32} {o5 : Option Value} {o6 : Option Value} {o7 : Option Value} {o8 : Option Value} {o9 : Option Value} (h10 : Q (.inl (some (.int 4))) (n, sl, f)) : mi_W d 182 292 [some (.ref l1), some (.int l2), some (.int l3), some (.int l4), o5, o6, o7, o8, o9] [] (n, sl, f) Q := by
  refine w_iconst (v := 4) cd_182_292 (by decide) ?_
  exact w_ireturn_i cd_182_293 (by decide +kernel) h10
/-! MarloweHostModel.fits(II)I -/
theorem cd_183_0 : mt_cd 183 0 = some (.aload_n 0) := by decide +kernel
theorem cd_183_1 : mt_cd 183 1 = some (.iconst 0) := by decide +kernel
theorem cd_183_2 : mt_cd 183 2 = some (.putfield 441) := by decide +kernel
theorem cd_183_5 : mt_cd 183 5 = some (.aload_n 0) := by decide +kernel
theorem cd_183_6 : mt_cd 183 6 = some (.getfield 178) := by decide +kernel
theorem cd_183_9 : mt_cd 183 9 = some (.iload_n 2) := by decide +kernel
theorem cd_183_10 : mt_cd 183 10 = some (.iaload) := by decide +kernel
theorem cd_183_11 : mt_cd 183 11 = some (.aload_n 0) := by decide +kernel
theorem cd_183_12 : mt_cd 183 12 = some (.getfield 77) := by decide +kernel
theorem cd_183_15 : mt_cd 183 15 = some (.iload_n 1) := by decide +kernel
theorem cd_183_16 : mt_cd 183 16 = some (.iaload) := by decide +kernel
theorem cd_183_17 : mt_cd 183 17 = some (.if_icmp .eq 5) := by decide +kernel
theorem cd_183_20 : mt_cd 183 20 = some (.iconst 0) := by decide +kernel
theorem cd_183_21 : mt_cd 183 21 = some (.ireturn) := by decide +kernel
theorem cd_183_22 : mt_cd 183 22 = some (.aload_n 0) := by decide +kernel
theorem cd_183_23 : mt_cd 183 23 = some (.getfield 77) := by decide +kernel
theorem cd_183_26 : mt_cd 183 26 = some (.iload_n 1) := by decide +kernel
theorem cd_183_27 : mt_cd 183 27 = some (.iaload) := by decide +kernel
theorem cd_183_28 : mt_cd 183 28 = some (.bipush 9) := by decide +kernel
theorem cd_183_30 : mt_cd 183 30 = some (.if_icmp .ne 36) := by decide +kernel
theorem cd_183_33 : mt_cd 183 33 = some (.aload_n 0) := by decide +kernel
theorem cd_183_34 : mt_cd 183 34 = some (.aload_n 0) := by decide +kernel
theorem cd_183_35 : mt_cd 183 35 = some (.getfield 89) := by decide +kernel
theorem cd_183_38 : mt_cd 183 38 = some (.iload_n 1) := by decide +kernel
theorem cd_183_39 : mt_cd 183 39 = some (.iaload) := by decide +kernel
theorem cd_183_40 : mt_cd 183 40 = some (.invokevirtual 477) := by decide +kernel
theorem cd_183_43 : mt_cd 183 43 = some (.istore_n 3) := by decide +kernel
theorem cd_183_44 : mt_cd 183 44 = some (.aload_n 0) := by decide +kernel
theorem cd_183_45 : mt_cd 183 45 = some (.getfield 441) := by decide +kernel
theorem cd_183_48 : mt_cd 183 48 = some (.ifCond .eq 8) := by decide +kernel
theorem cd_183_51 : mt_cd 183 51 = some (.bipush 6) := by decide +kernel
theorem cd_183_53 : mt_cd 183 53 = some (.goto 12) := by decide +kernel
theorem cd_183_56 : mt_cd 183 56 = some (.iload_n 3) := by decide +kernel
theorem cd_183_57 : mt_cd 183 57 = some (.ifCond .eq 7) := by decide +kernel
theorem cd_183_60 : mt_cd 183 60 = some (.iconst 1) := by decide +kernel
theorem cd_183_61 : mt_cd 183 61 = some (.goto 4) := by decide +kernel
theorem cd_183_64 : mt_cd 183 64 = some (.iconst 0) := by decide +kernel
theorem cd_183_65 : mt_cd 183 65 = some (.ireturn) := by decide +kernel
theorem cd_183_66 : mt_cd 183 66 = some (.aload_n 0) := by decide +kernel
theorem cd_183_67 : mt_cd 183 67 = some (.getfield 77) := by decide +kernel
theorem cd_183_70 : mt_cd 183 70 = some (.iload_n 1) := by decide +kernel
theorem cd_183_71 : mt_cd 183 71 = some (.iaload) := by decide +kernel
theorem cd_183_72 : mt_cd 183 72 = some (.bipush 8) := by decide +kernel
theorem cd_183_74 : mt_cd 183 74 = some (.if_icmp .ne 78) := by decide +kernel
theorem cd_183_77 : mt_cd 183 77 = some (.aload_n 0) := by decide +kernel
theorem cd_183_78 : mt_cd 183 78 = some (.getfield 181) := by decide +kernel
theorem cd_183_81 : mt_cd 183 81 = some (.iload_n 2) := by decide +kernel
theorem cd_183_82 : mt_cd 183 82 = some (.iaload) := by decide +kernel
theorem cd_183_83 : mt_cd 183 83 = some (.aload_n 0) := by decide +kernel
theorem cd_183_84 : mt_cd 183 84 = some (.getfield 80) := by decide +kernel
theorem cd_183_87 : mt_cd 183 87 = some (.iload_n 1) := by decide +kernel
theorem cd_183_88 : mt_cd 183 88 = some (.iaload) := by decide +kernel
theorem cd_183_89 : mt_cd 183 89 = some (.if_icmp .eq 5) := by decide +kernel
theorem cd_183_92 : mt_cd 183 92 = some (.iconst 0) := by decide +kernel
theorem cd_183_93 : mt_cd 183 93 = some (.ireturn) := by decide +kernel
theorem cd_183_94 : mt_cd 183 94 = some (.aload_n 0) := by decide +kernel
theorem cd_183_95 : mt_cd 183 95 = some (.getfield 141) := by decide +kernel
theorem cd_183_98 : mt_cd 183 98 = some (.iload_n 1) := by decide +kernel
theorem cd_183_99 : mt_cd 183 99 = some (.iaload) := by decide +kernel
theorem cd_183_100 : mt_cd 183 100 = some (.istore_n 3) := by decide +kernel
theorem cd_183_101 : mt_cd 183 101 = some (.iload_n 3) := by decide +kernel
theorem cd_183_102 : mt_cd 183 102 = some (.aload_n 0) := by decide +kernel
theorem cd_183_103 : mt_cd 183 103 = some (.getfield 141) := by decide +kernel
theorem cd_183_106 : mt_cd 183 106 = some (.iload_n 1) := by decide +kernel
theorem cd_183_107 : mt_cd 183 107 = some (.iaload) := by decide +kernel
theorem cd_183_108 : mt_cd 183 108 = some (.aload_n 0) := by decide +kernel
theorem cd_183_109 : mt_cd 183 109 = some (.getfield 95) := by decide +kernel
theorem cd_183_112 : mt_cd 183 112 = some (.iload_n 1) := by decide +kernel
theorem cd_183_113 : mt_cd 183 113 = some (.iaload) := by decide +kernel
theorem cd_183_114 : mt_cd 183 114 = some (.iadd) := by decide +kernel
theorem cd_183_115 : mt_cd 183 115 = some (.if_icmp .ge 35) := by decide +kernel
theorem cd_183_118 : mt_cd 183 118 = some (.aload_n 0) := by decide +kernel
theorem cd_183_119 : mt_cd 183 119 = some (.getfield 190) := by decide +kernel
theorem cd_183_122 : mt_cd 183 122 = some (.iload_n 2) := by decide +kernel
theorem cd_183_123 : mt_cd 183 123 = some (.laload) := by decide +kernel
theorem cd_183_124 : mt_cd 183 124 = some (.aload_n 0) := by decide +kernel
theorem cd_183_125 : mt_cd 183 125 = some (.getfield 105) := by decide +kernel
theorem cd_183_128 : mt_cd 183 128 = some (.iload_n 3) := by decide +kernel
theorem cd_183_129 : mt_cd 183 129 = some (.laload) := by decide +kernel
theorem cd_183_130 : mt_cd 183 130 = some (.aload_n 0) := by decide +kernel
theorem cd_183_131 : mt_cd 183 131 = some (.getfield 108) := by decide +kernel
theorem cd_183_134 : mt_cd 183 134 = some (.iload_n 3) := by decide +kernel
theorem cd_183_135 : mt_cd 183 135 = some (.laload) := by decide +kernel
theorem cd_183_136 : mt_cd 183 136 = some (.invokestatic 268) := by decide +kernel
theorem cd_183_139 : mt_cd 183 139 = some (.ifCond .eq 5) := by decide +kernel
theorem cd_183_142 : mt_cd 183 142 = some (.iconst 1) := by decide +kernel
theorem cd_183_143 : mt_cd 183 143 = some (.ireturn) := by decide +kernel
theorem cd_183_144 : mt_cd 183 144 = some (.iinc 3 1) := by decide +kernel
theorem cd_183_147 : mt_cd 183 147 = some (.goto (-46)) := by decide +kernel
theorem cd_183_150 : mt_cd 183 150 = some (.iconst 0) := by decide +kernel
theorem cd_183_151 : mt_cd 183 151 = some (.ireturn) := by decide +kernel
theorem cd_183_152 : mt_cd 183 152 = some (.aload_n 0) := by decide +kernel
theorem cd_183_153 : mt_cd 183 153 = some (.getfield 181) := by decide +kernel
theorem cd_183_156 : mt_cd 183 156 = some (.iload_n 2) := by decide +kernel
theorem cd_183_157 : mt_cd 183 157 = some (.iaload) := by decide +kernel
theorem cd_183_158 : mt_cd 183 158 = some (.aload_n 0) := by decide +kernel
theorem cd_183_159 : mt_cd 183 159 = some (.getfield 80) := by decide +kernel
theorem cd_183_162 : mt_cd 183 162 = some (.iload_n 1) := by decide +kernel
theorem cd_183_163 : mt_cd 183 163 = some (.iaload) := by decide +kernel
theorem cd_183_164 : mt_cd 183 164 = some (.if_icmp .ne 33) := by decide +kernel
theorem cd_183_167 : mt_cd 183 167 = some (.aload_n 0) := by decide +kernel
theorem cd_183_168 : mt_cd 183 168 = some (.getfield 184) := by decide +kernel
theorem cd_183_171 : mt_cd 183 171 = some (.iload_n 2) := by decide +kernel
theorem cd_183_172 : mt_cd 183 172 = some (.iaload) := by decide +kernel
theorem cd_183_173 : mt_cd 183 173 = some (.aload_n 0) := by decide +kernel
theorem cd_183_174 : mt_cd 183 174 = some (.getfield 83) := by decide +kernel
theorem cd_183_177 : mt_cd 183 177 = some (.iload_n 1) := by decide +kernel
theorem cd_183_178 : mt_cd 183 178 = some (.iaload) := by decide +kernel
theorem cd_183_179 : mt_cd 183 179 = some (.if_icmp .ne 18) := by decide +kernel
theorem cd_183_182 : mt_cd 183 182 = some (.aload_n 0) := by decide +kernel
theorem cd_183_183 : mt_cd 183 183 = some (.getfield 187) := by decide +kernel
theorem cd_183_186 : mt_cd 183 186 = some (.iload_n 2) := by decide +kernel
theorem cd_183_187 : mt_cd 183 187 = some (.iaload) := by decide +kernel
theorem cd_183_188 : mt_cd 183 188 = some (.aload_n 0) := by decide +kernel
theorem cd_183_189 : mt_cd 183 189 = some (.getfield 86) := by decide +kernel
theorem cd_183_192 : mt_cd 183 192 = some (.iload_n 1) := by decide +kernel
theorem cd_183_193 : mt_cd 183 193 = some (.iaload) := by decide +kernel
theorem cd_183_194 : mt_cd 183 194 = some (.if_icmp .eq 5) := by decide +kernel
theorem cd_183_197 : mt_cd 183 197 = some (.iconst 0) := by decide +kernel
theorem cd_183_198 : mt_cd 183 198 = some (.ireturn) := by decide +kernel
theorem cd_183_199 : mt_cd 183 199 = some (.aload_n 0) := by decide +kernel
theorem cd_183_200 : mt_cd 183 200 = some (.aload_n 0) := by decide +kernel
theorem cd_183_201 : mt_cd 183 201 = some (.getfield 89) := by decide +kernel
theorem cd_183_204 : mt_cd 183 204 = some (.iload_n 1) := by decide +kernel
theorem cd_183_205 : mt_cd 183 205 = some (.iaload) := by decide +kernel
theorem cd_183_206 : mt_cd 183 206 = some (.invokevirtual 451) := by decide +kernel
theorem cd_183_209 : mt_cd 183 209 = some (.lstore_n 3) := by decide +kernel
theorem cd_183_210 : mt_cd 183 210 = some (.aload_n 0) := by decide +kernel
theorem cd_183_211 : mt_cd 183 211 = some (.getfield 441) := by decide +kernel
theorem cd_183_214 : mt_cd 183 214 = some (.ifCond .eq 8) := by decide +kernel
theorem cd_183_217 : mt_cd 183 217 = some (.bipush 6) := by decide +kernel
theorem cd_183_219 : mt_cd 183 219 = some (.goto 19) := by decide +kernel
theorem cd_183_222 : mt_cd 183 222 = some (.lload_n 3) := by decide +kernel
theorem cd_183_223 : mt_cd 183 223 = some (.aload_n 0) := by decide +kernel
theorem cd_183_224 : mt_cd 183 224 = some (.getfield 190) := by decide +kernel
theorem cd_183_227 : mt_cd 183 227 = some (.iload_n 2) := by decide +kernel
theorem cd_183_228 : mt_cd 183 228 = some (.laload) := by decide +kernel
theorem cd_183_229 : mt_cd 183 229 = some (.lcmp) := by decide +kernel
theorem cd_183_230 : mt_cd 183 230 = some (.ifCond .ne 7) := by decide +kernel
theorem cd_183_233 : mt_cd 183 233 = some (.iconst 1) := by decide +kernel
theorem cd_183_234 : mt_cd 183 234 = some (.goto 4) := by decide +kernel
theorem cd_183_237 : mt_cd 183 237 = some (.iconst 0) := by decide +kernel
theorem cd_183_238 : mt_cd 183 238 = some (.ireturn) := by decide +kernel
theorem b_183_0 {d : Nat} {Q : (Option Value ⊕ Nat) → mi_H → Prop} (n sl : Nat) (f : Nat → mi_C) {l1 : Nat} {l2 : Int32} {l3 : Int32} {o4 : Option Value} {o5 : Option Value} {fs6 : List Value} {fs11 : List Value} {x14 : Nat} (m16 i16 : Nat) (g16 : Nat → Int32) {fs20 : List Value} {x23 : Nat} (m25 i25 : Nat) (g25 : Nat → Int32) (h7 : f l1 = .inr (12, fs6)) (h8 : l1 < n) (h9 : 46 < fs6.length) (h10 : mi_fk .boolean (.int 0) = true) (h12 : (va_up f l1 (.inr (12, fs6.set 46 (.int 0)))) l1 = .inr (12, fs11)) (h13 : l1 < n) (h15 : fs11[60]? = some (.ref x14)) (h17 : (va_up f l1 (.inr (12, fs6.set 46 (.int 0)))) x14 = .inl (0, m16, .inl g16)) (h18 : x14 < n ∨ x14 = mi_SC) (h19 : mi_ix l3 m16 i16) (h21 : (va_up f l1 (.inr (12, fs6.set 46 (.int 0)))) l1 = .inr (12, fs20)) (h22 : l1 < n) (h24 : fs20[12]? = some (.ref x23)) (h26 : (va_up f l1 (.inr (12, fs6.set 46 (.int 0)))) x23 = .inl (0, m25, .inl g25)) (h27 : x23 < n ∨ x23 = mi_SC) (h28 : mi_ix l2 m25 i25) (h29 : (g16 i16) = (g25 i25) → mi_W d 183 22 [some (.ref l1), some (.int l2), some (.int l3), o4, o5] [] (n, sl, (va_up f l1 (.inr (12, fs6.set 46 (.int 0))))) Q) (h30 : ¬ ((g16 i16) = (g25 i25)) → mi_W d 183 20 [some (.ref l1), some (.int l2), some (.int l3), o4, o5] [] (n, sl, (va_up f l1 (.inr (12, fs6.set 46 (.int 0))))) Q) : mi_W d 183 0 [some (.ref l1), some (.int l2), some (.int l3), o4, o5] [] (n, sl, f) Q := by
  refine w_aload_n cd_183_0 rfl ?_
  refine w_iconst (v := 0) cd_183_1 (by decide) ?_
  refine w_putfield (w := .int 0) cd_183_2 (show mt_f 12 441 = some (12, 46) by decide +kernel) h7 h8 ⟨h9, h10, Or.inl (by decide)⟩ ?_
  refine w_aload_n cd_183_5 rfl ?_
  refine w_getfield cd_183_6 (show mt_f 12 178 = some (12, 60) by decide +kernel) h12 h13 h15 ?_
  refine w_iload_n cd_183_9 rfl ?_
  refine w_iaload cd_183_10 h17 h18 h19 ?_
  refine w_aload_n cd_183_11 rfl ?_
  refine w_getfield cd_183_12 (show mt_f 12 77 = some (12, 12) by decide +kernel) h21 h22 h24 ?_
  refine w_iload_n cd_183_15 rfl ?_
  refine w_iaload cd_183_16 h26 h27 h28 ?_
  exact w_if_icmpeq cd_183_17 (by decide) h29 h30
theorem b_183_20 {d : Nat} {Q : (Option Value ⊕ Nat) → mi_H → Prop} (n sl : Nat) (f : Nat → mi_C) {l1 : Nat} {l2 : Int32} {l3 : Int32} {o4 : Option Value} {o5 : Option Value} (h6 : Q (.inl (some (.int 0))) (n, sl, f)) : mi_W d 183 20 [some (.ref l1), some (.int l2), some (.int l3), o4, o5] [] (n, sl, f) Q := by
  refine w_iconst (v := 0) cd_183_20 (by decide) ?_
  exact w_ireturn_i cd_183_21 (by decide +kernel) h6
theorem b_183_22 {d : Nat} {Q : (Option Value ⊕ Nat) → mi_H → Prop} (n sl : Nat) (f : Nat → mi_C) {l1 : Nat} {l2 : Int32} {l3 : Int32} {o4 : Option Value} {o5 : Option Value} {fs6 : List Value} {x9 : Nat} (m11 i11 : Nat) (g11 : Nat → Int32) (h7 : f l1 = .inr (12, fs6)) (h8 : l1 < n) (h10 : fs6[12]? = some (.ref x9)) (h12 : f x9 = .inl (0, m11, .inl g11)) (h13 : x9 < n ∨ x9 = mi_SC) (h14 : mi_ix l2 m11 i11) (h15 : ¬ (g11 i11) = 9 → mi_W d 183 66 [some (.ref l1), some (.int l2), some (.int l3), o4, o5] [] (n, sl, f) Q) (h16 : ¬ (¬ (g11 i11) = 9) → mi_W d 183 33 [some (.ref l1), some (.int l2), some (.int l3), o4, o5] [] (n, sl, f) Q) : mi_W d 183 22 [some (.ref l1), some (.int l2), some (.int l3), o4, o5] [] (n, sl, f) Q := by
  refine w_aload_n cd_183_22 rfl ?_
  refine w_getfield cd_183_23 (show mt_f 12 77 = some (12, 12) by decide +kernel) h7 h8 h10 ?_
  refine w_iload_n cd_183_26 rfl ?_
  refine w_iaload cd_183_27 h12 h13 h14 ?_
  refine w_bipush (v := 9) cd_183_28 (by decide) ?_
  exact w_if_icmpne cd_183_30 (by decide) h15 h16
theorem b_183_33 {d : Nat} {Q : (Option Value ⊕ Nat) → mi_H → Prop} (n sl : Nat) (f : Nat → mi_C) {l1 : Nat} {l2 : Int32} {l3 : Int32} {o4 : Option Value} {o5 : Option Value} {fs6 : List Value} {x9 : Nat} (m11 i11 : Nat) (g11 : Nat → Int32) {fs15 : List Value} (h7 : f l1 = .inr (12, fs6)) (h8 : l1 < n) (h10 : fs6[16]? = some (.ref x9)) (h12 : f x9 = .inl (0, m11, .inl g11)) (h13 : x9 < n ∨ x9 = mi_SC) (h14 : mi_ix l2 m11 i11) (h16 : f l1 = .inr (12, fs15)) (h17 : l1 < n) (h18 : mi_W d 178 0 (mi_en 6 [.ref l1, .int (g11 i11)]) [] (n, sl, f) (mi_Kc d 183 40 [some (.ref l1), some (.int l2), some (.int l3), o4, o5] [] Q)) : mi_W (d + 1) 183 33 [some (.ref l1), some (.int l2), some (.int l3), o4, o5] [] (n, sl, f) Q := by
  refine w_aload_n cd_183_33 rfl ?_
  refine w_aload_n cd_183_34 rfl ?_
  refine w_getfield cd_183_35 (show mt_f 12 89 = some (12, 16) by decide +kernel) h7 h8 h10 ?_
  refine w_iload_n cd_183_38 rfl ?_
  refine w_iaload cd_183_39 h12 h13 h14 ?_
  exact w_invokevirtual cd_183_40 (show mt_m 12 477 = some (178, 0) by decide +kernel) (rest := []) rfl (as := [.ref l1, .int (g11 i11)]) rfl h16 (Or.inl h17) ⟨Nat.le_of_ble_eq_true rfl, Nat.le_of_ble_eq_true rfl, Nat.le_of_ble_eq_true rfl⟩ h18
theorem b_183_43 {d : Nat} {Q : (Option Value ⊕ Nat) → mi_H → Prop} (n sl : Nat) (f : Nat → mi_C) {l1 : Nat} {l2 : Int32} {l3 : Int32} {o4 : Option Value} {o5 : Option Value} {s6 : Int32} {fs7 : List Value} {x10 : Int32} (h8 : f l1 = .inr (12, fs7)) (h9 : l1 < n) (h11 : fs7[46]? = some (.int x10)) (h12 : x10 = (0 : Int32) → mi_W d 183 56 [some (.ref l1), some (.int l2), some (.int l3), some (.int s6), o5] [] (n, sl, f) Q) (h13 : ¬ (x10 = (0 : Int32)) → mi_W d 183 51 [some (.ref l1), some (.int l2), some (.int l3), some (.int s6), o5] [] (n, sl, f) Q) : mi_W d 183 43 [some (.ref l1), some (.int l2), some (.int l3), o4, o5] [.int s6] (n, sl, f) Q := by
  refine w_istore_n (ls' := [some (.ref l1), some (.int l2), some (.int l3), some (.int s6), o5]) cd_183_43 (Nat.le_of_ble_eq_true rfl) rfl ?_
  refine w_aload_n cd_183_44 rfl ?_
  refine w_getfield cd_183_45 (show mt_f 12 441 = some (12, 46) by decide +kernel) h8 h9 h11 ?_
  exact w_ifeq cd_183_48 (by decide) h12 h13
theorem b_183_51 {d : Nat} {Q : (Option Value ⊕ Nat) → mi_H → Prop} (n sl : Nat) (f : Nat → mi_C) {l1 : Nat} {l2 : Int32} {l3 : Int32} {l4 : Int32} {o5 : Option Value} (h6 : mi_W d 183 65 [some (.ref l1), some (.int l2), some (.int l3), some (.int l4), o5] [.int 6] (n, sl, f) Q) : mi_W d 183 51 [some (.ref l1), some (.int l2), some (.int l3), some (.int l4), o5] [] (n, sl, f) Q := by
  refine w_bipush (v := 6) cd_183_51 (by decide) ?_
  exact w_goto cd_183_53 (by decide) h6
theorem b_183_56 {d : Nat} {Q : (Option Value ⊕ Nat) → mi_H → Prop} (n sl : Nat) (f : Nat → mi_C) {l1 : Nat} {l2 : Int32} {l3 : Int32} {l4 : Int32} {o5 : Option Value} (h6 : l4 = (0 : Int32) → mi_W d 183 64 [some (.ref l1), some (.int l2), some (.int l3), some (.int l4), o5] [] (n, sl, f) Q) (h7 : ¬ (l4 = (0 : Int32)) → mi_W d 183 60 [some (.ref l1), some (.int l2), some (.int l3), some (.int l4), o5] [] (n, sl, f) Q) : mi_W d 183 56 [some (.ref l1), some (.int l2), some (.int l3), some (.int l4), o5] [] (n, sl, f) Q := by
  refine w_iload_n cd_183_56 rfl ?_
  exact w_ifeq cd_183_57 (by decide) h6 h7
theorem b_183_60 {d : Nat} {Q : (Option Value ⊕ Nat) → mi_H → Prop} (n sl : Nat) (f : Nat → mi_C) {l1 : Nat} {l2 : Int32} {l3 : Int32} {l4 : Int32} {o5 : Option Value} (h6 : mi_W d 183 65 [some (.ref l1), some (.int l2), some (.int l3), some (.int l4), o5] [.int 1] (n, sl, f) Q) : mi_W d 183 60 [some (.ref l1), some (.int l2), some (.int l3), some (.int l4), o5] [] (n, sl, f) Q := by
  refine w_iconst (v := 1) cd_183_60 (by decide) ?_
  exact w_goto cd_183_61 (by decide) h6
theorem b_183_64 {d : Nat} {Q : (Option Value ⊕ Nat) → mi_H → Prop} (n sl : Nat) (f : Nat → mi_C) {l1 : Nat} {l2 : Int32} {l3 : Int32} {l4 : Int32} {o5 : Option Value} (h6 : mi_W d 183 65 [some (.ref l1), some (.int l2), some (.int l3), some (.int l4), o5] [.int 0] (n, sl, f) Q) : mi_W d 183 64 [some (.ref l1), some (.int l2), some (.int l3), some (.int l4), o5] [] (n, sl, f) Q := by
  refine w_iconst (v := 0) cd_183_64 (by decide) ?_
  exact h6
theorem b_183_65 {d : Nat} {Q : (Option Value ⊕ Nat) → mi_H → Prop} (n sl : Nat) (f : Nat → mi_C) {l1 : Nat} {l2 : Int32} {l3 : Int32} {l4 : Int32} {o5 : Option Value} {s6 : Int32} (h7 : Q (.inl (some (.int s6))) (n, sl, f)) : mi_W d 183 65 [some (.ref l1), some (.int l2), some (.int l3), some (.int l4), o5] [.int s6] (n, sl, f) Q := by
  exact w_ireturn_i cd_183_65 (by decide +kernel) h7
theorem b_183_66 {d : Nat} {Q : (Option Value ⊕ Nat) → mi_H → Prop} (n sl : Nat) (f : Nat → mi_C) {l1 : Nat} {l2 : Int32} {l3 : Int32} {o4 : Option Value} {o5 : Option Value} {fs6 : List Value} {x9 : Nat} (m11 i11 : Nat) (g11 : Nat → Int32) (h7 : f l1 = .inr (12, fs6)) (h8 : l1 < n) (h10 : fs6[12]? = some (.ref x9)) (h12 : f x9 = .inl (0, m11, .inl g11)) (h13 : x9 < n ∨ x9 = mi_SC) (h14 : mi_ix l2 m11 i11) (h15 : ¬ (g11 i11) = 8 → mi_W d 183 152 [some (.ref l1), some (.int l2), some (.int l3), o4, o5] [] (n, sl, f) Q) (h16 : ¬ (¬ (g11 i11) = 8) → mi_W d 183 77 [some (.ref l1), some (.int l2), some (.int l3), o4, o5] [] (n, sl, f) Q) : mi_W d 183 66 [some (.ref l1), some (.int l2), some (.int l3), o4, o5] [] (n, sl, f) Q := by
  refine w_aload_n cd_183_66 rfl ?_
  refine w_getfield cd_183_67 (show mt_f 12 77 = some (12, 12) by decide +kernel) h7 h8 h10 ?_
  refine w_iload_n cd_183_70 rfl ?_
  refine w_iaload cd_183_71 h12 h13 h14 ?_
  refine w_bipush (v := 8) cd_183_72 (by decide) ?_
  exact w_if_icmpne cd_183_74 (by decide) h15 h16
theorem b_183_77 {d : Nat} {Q : (Option Value ⊕ Nat) → mi_H → Prop} (n sl : Nat) (f : Nat → mi_C) {l1 : Nat} {l2 : Int32} {l3 : Int32} {o4 : Option Value} {o5 : Option Value} {fs6 : List Value} {x9 : Nat} (m11 i11 : Nat) (g11 : Nat → Int32) {fs15 : List Value} {x18 : Nat} (m20 i20 : Nat) (g20 : Nat → Int32) (h7 : f l1 = .inr (12, fs6)) (h8 : l1 < n) (h10 : fs6[61]? = some (.ref x9)) (h12 : f x9 = .inl (0, m11, .inl g11)) (h13 : x9 < n ∨ x9 = mi_SC) (h14 : mi_ix l3 m11 i11) (h16 : f l1 = .inr (12, fs15)) (h17 : l1 < n) (h19 : fs15[13]? = some (.ref x18)) (h21 : f x18 = .inl (0, m20, .inl g20)) (h22 : x18 < n ∨ x18 = mi_SC) (h23 : mi_ix l2 m20 i20) (h24 : (g11 i11) = (g20 i20) → mi_W d 183 94 [some (.ref l1), some (.int l2), some (.int l3), o4, o5] [] (n, sl, f) Q) (h25 : ¬ ((g11 i11) = (g20 i20)) → mi_W d 183 92 [some (.ref l1), some (.int l2), some (.int l3), o4, o5] [] (n, sl, f) Q) : mi_W d 183 77 [some (.ref l1), some (.int l2), some (.int l3), o4, o5] [] (n, sl, f) Q := by
  refine w_aload_n cd_183_77 rfl ?_
  refine w_getfield cd_183_78 (show mt_f 12 181 = some (12, 61) by decide +kernel) h7 h8 h10 ?_
  refine w_iload_n cd_183_81 rfl ?_
  refine w_iaload cd_183_82 h12 h13 h14 ?_
  refine w_aload_n cd_183_83 rfl ?_
  refine w_getfield cd_183_84 (show mt_f 12 80 = some (12, 13) by decide +kernel) h16 h17 h19 ?_
  refine w_iload_n cd_183_87 rfl ?_
  refine w_iaload cd_183_88 h21 h22 h23 ?_
  exact w_if_icmpeq cd_183_89 (by decide) h24 h25
theorem b_183_92 {d : Nat} {Q : (Option Value ⊕ Nat) → mi_H → Prop} (n sl : Nat) (f : Nat → mi_C) {l1 : Nat} {l2 : Int32} {l3 : Int32} {o4 : Option Value} {o5 : Option Value} (h6 : Q (.inl (some (.int 0))) (n, sl, f)) : mi_W d 183 92 [some (.ref l1), some (.int l2), some (.int l3), o4, o5] [] (n, sl, f) Q := by
  refine w_iconst (v := 0) cd_183_92 (by decide) ?_
  exact w_ireturn_i cd_183_93 (by decide +kernel) h6
theorem b_183_94 {d : Nat} {Q : (Option Value ⊕ Nat) → mi_H → Prop} (n sl : Nat) (f : Nat → mi_C) {l1 : Nat} {l2 : Int32} {l3 : Int32} {o4 : Option Value} {o5 : Option Value} {fs6 : List Value} {x9 : Nat} (m11 i11 : Nat) (g11 : Nat → Int32) (h7 : f l1 = .inr (12, fs6)) (h8 : l1 < n) (h10 : fs6[40]? = some (.ref x9)) (h12 : f x9 = .inl (0, m11, .inl g11)) (h13 : x9 < n ∨ x9 = mi_SC) (h14 : mi_ix l2 m11 i11) (h15 : mi_W d 183 101 [some (.ref l1), some (.int l2), some (.int l3), some (.int (g11 i11)), o5] [] (n, sl, f) Q) : mi_W d 183 94 [some (.ref l1), some (.int l2), some (.int l3), o4, o5] [] (n, sl, f) Q := by
  refine w_aload_n cd_183_94 rfl ?_
  refine w_getfield cd_183_95 (show mt_f 12 141 = some (12, 40) by decide +kernel) h7 h8 h10 ?_
  refine w_iload_n cd_183_98 rfl ?_
  refine w_iaload cd_183_99 h12 h13 h14 ?_
  refine w_istore_n (ls' := [some (.ref l1), some (.int l2), some (.int l3), some (.int (g11 i11)), o5]) cd_183_100 (Nat.le_of_ble_eq_true rfl) rfl ?_
  exact h15
theorem b_183_101 {d : Nat} {Q : (Option Value ⊕ Nat) → mi_H → Prop} (n sl : Nat) (f : Nat → mi_C) {l1 : Nat} {l2 : Int32} {l3 : Int32} {l4 : Int32} {o5 : Option Value} {fs6 : List Value} {x9 : Nat} (m11 i11 : Nat) (g11 : Nat → Int32) {fs15 : List Value} {x18 : Nat} (m20 i20 : Nat) (g20 : Nat → Int32) (h7 : f l1 = .inr (12, fs6)) (h8 : l1 < n) (h10 : fs6[40]? = some (.ref x9)) (h12 : f x9 = .inl (0, m11, .inl g11)) (h13 : x9 < n ∨ x9 = mi_SC) (h14 : mi_ix l2 m11 i11) (h16 : f l1 = .inr (12, fs15)) (h17 : l1 < n) (h19 : fs15[18]? = some (.ref x18)) (h21 : f x18 = .inl (0, m20, .inl g20)) (h22 : x18 < n ∨ x18 = mi_SC) (h23 : mi_ix l2 m20 i20) (h24 : ((g11 i11) + (g20 i20)) ≤ l4 → mi_W d 183 150 [some (.ref l1), some (.int l2), some (.int l3), some (.int l4), o5] [] (n, sl, f) Q) (h25 : ¬ (((g11 i11) + (g20 i20)) ≤ l4) → mi_W d 183 118 [some (.ref l1), some (.int l2), some (.int l3), some (.int l4), o5] [] (n, sl, f) Q) : mi_W d 183 101 [some (.ref l1), some (.int l2), some (.int l3), some (.int l4), o5] [] (n, sl, f) Q := by
  refine w_iload_n cd_183_101 rfl ?_
  refine w_aload_n cd_183_102 rfl ?_
  refine w_getfield cd_183_103 (show mt_f 12 141 = some (12, 40) by decide +kernel) h7 h8 h10 ?_
  refine w_iload_n cd_183_106 rfl ?_
  refine w_iaload cd_183_107 h12 h13 h14 ?_
  refine w_aload_n cd_183_108 rfl ?_
  refine w_getfield cd_183_109 (show mt_f 12 95 = some (12, 18) by decide +kernel) h16 h17 h19 ?_
  refine w_iload_n cd_183_112 rfl ?_
  refine w_iaload cd_183_113 h21 h22 h23 ?_
  refine w_iadd cd_183_114 ?_
  exact w_if_icmpge cd_183_115 (by decide) h24 h25
theorem b_183_118 {d : Nat} {Q : (Option Value ⊕ Nat) → mi_H → Prop} (n sl : Nat) (f : Nat → mi_C) {l1 : Nat} {l2 : Int32} {l3 : Int32} {l4 : Int32} {o5 : Option Value} {fs6 : List Value} {x9 : Nat} (m11 i11 : Nat) (g11 : Nat → Int64) {fs15 : List Value} {x18 : Nat} (m20 i20 : Nat) (g20 : Nat → Int64) {fs24 : List Value} {x27 : Nat} (m29 i29 : Nat) (g29 : Nat → Int64) (h7 : f l1 = .inr (12, fs6)) (h8 : l1 < n) (h10 : fs6[64]? = some (.ref x9)) (h12 : f x9 = .inl (3, m11, .inr (.inl g11))) (h13 : x9 < n) (h14 : mi_ix l3 m11 i11) (h16 : f l1 = .inr (12, fs15)) (h17 : l1 < n) (h19 : fs15[28]? = some (.ref x18)) (h21 : f x18 = .inl (3, m20, .inr (.inl g20))) (h22 : x18 < n) (h23 : mi_ix l4 m20 i20) (h25 : f l1 = .inr (12, fs24)) (h26 : l1 < n) (h28 : fs24[29]? = some (.ref x27)) (h30 : f x27 = .inl (3, m29, .inr (.inl g29))) (h31 : x27 < n) (h32 : mi_ix l4 m29 i29) (h33 : mi_W d 141 0 (mi_en 6 [.long (g11 i11), .long (g20 i20), .long (g29 i29)]) [] (n, sl, f) (mi_Kc d 183 136 [some (.ref l1), some (.int l2), some (.int l3), some (.int l4), o5] [] Q)) : mi_W (d + 1) 183 118 [some (.ref l1), some (.int l2), some (.int l3), some (.int l4), o5] [] (n, sl, f) Q := by
  refine w_aload_n cd_183_118 rfl ?_
  refine w_getfield cd_183_119 (show mt_f 12 190 = some (12, 64) by decide +kernel) h7 h8 h10 ?_
  refine w_iload_n cd_183_122 rfl ?_
  refine w_laload cd_183_123 h12 h13 h14 ?_
  refine w_aload_n cd_183_124 rfl ?_
  refine w_getfield cd_183_125 (show mt_f 12 105 = some (12, 28) by decide +kernel) h16 h17 h19 ?_
  refine w_iload_n cd_183_128 rfl ?_
  refine w_laload cd_183_129 h21 h22 h23 ?_
  refine w_aload_n cd_183_130 rfl ?_
  refine w_getfield cd_183_131 (show mt_f 12 108 = some (12, 29) by decide +kernel) h25 h26 h28 ?_
  refine w_iload_n cd_183_134 rfl ?_
  refine w_laload cd_183_135 h30 h31 h32 ?_
  exact w_invokestatic cd_183_136 (show mt_m 12 268 = some (141, 4) by decide +kernel) (by decide) (rest := []) rfl (as := [.long (g11 i11), .long (g20 i20), .long (g29 i29)]) rfl ⟨Nat.le_of_ble_eq_true rfl, Nat.le_of_ble_eq_true rfl, Nat.le_of_ble_eq_true rfl⟩ h33
theorem b_183_139 {d : Nat} {Q : (Option Value ⊕ Nat) → mi_H → Prop} (n sl : Nat) (f : Nat → mi_C) {l1 : Nat} {l2 : Int32} {l3 : Int32} {l4 : Int32} {o5 : Option Value} {s6 : Int32} (h7 : s6 = (0 : Int32) → mi_W d 183 144 [some (.ref l1), some (.int l2), some (.int l3), some (.int l4), o5] [] (n, sl, f) Q) (h8 : ¬ (s6 = (0 : Int32)) → mi_W d 183 142 [some (.ref l1), some (.int l2), some (.int l3), some (.int l4), o5] [] (n, sl, f) Q) : mi_W d 183 139 [some (.ref l1), some (.int l2), some (.int l3), some (.int l4), o5] [.int s6] (n, sl, f) Q := by
  exact w_ifeq cd_183_139 (by decide) h7 h8
theorem b_183_142 {d : Nat} {Q : (Option Value ⊕ Nat) → mi_H → Prop} (n sl : Nat) (f : Nat → mi_C) {l1 : Nat} {l2 : Int32} {l3 : Int32} {l4 : Int32} {o5 : Option Value} (h6 : Q (.inl (some (.int 1))) (n, sl, f)) : mi_W d 183 142 [some (.ref l1), some (.int l2), some (.int l3), some (.int l4), o5] [] (n, sl, f) Q := by
  refine w_iconst (v := 1) cd_183_142 (by decide) ?_
  exact w_ireturn_i cd_183_143 (by decide +kernel) h6
theorem b_183_144 {d : Nat} {Q : (Option Value ⊕ Nat) → mi_H → Prop} (n sl : Nat) (f : Nat → mi_C) {l1 : Nat} {l2 : Int32} {l3 : Int32} {l4 : Int32} {o5 : Option Value} (h6 : mi_W d 183 101 [some (.ref l1), some (.int l2), some (.int l3), some (.int (l4 + 1)), o5] [] (n, sl, f) Q) : mi_W d 183 144 [some (.ref l1), some (.int l2), some (.int l3), some (.int l4), o5] [] (n, sl, f) Q := by
  refine w_iinc (v := 1) (ls' := [some (.ref l1), some (.int l2), some (.int l3), some (.int (l4 + 1)), o5]) cd_183_144 rfl (by decide) rfl ?_
  exact w_goto cd_183_147 (by decide) h6
theorem b_183_150 {d : Nat} {Q : (Option Value ⊕ Nat) → mi_H → Prop} (n sl : Nat) (f : Nat → mi_C) {l1 : Nat} {l2 : Int32} {l3 : Int32} {l4 : Int32} {o5 : Option Value} (h6 : Q (.inl (some (.int 0))) (n, sl, f)) : mi_W d 183 150 [some (.ref l1), some (.int l2), some (.int l3), some (.int l4), o5] [] (n, sl, f) Q := by
  refine w_iconst (v := 0) cd_183_150 (by decide) ?_
  exact w_ireturn_i cd_183_151 (by decide +kernel) h6
theorem b_183_152 {d : Nat} {Q : (Option Value ⊕ Nat) → mi_H → Prop} (n sl : Nat) (f : Nat → mi_C) {l1 : Nat} {l2 : Int32} {l3 : Int32} {o4 : Option Value} {o5 : Option Value} {fs6 : List Value} {x9 : Nat} (m11 i11 : Nat) (g11 : Nat → Int32) {fs15 : List Value} {x18 : Nat} (m20 i20 : Nat) (g20 : Nat → Int32) (h7 : f l1 = .inr (12, fs6)) (h8 : l1 < n) (h10 : fs6[61]? = some (.ref x9)) (h12 : f x9 = .inl (0, m11, .inl g11)) (h13 : x9 < n ∨ x9 = mi_SC) (h14 : mi_ix l3 m11 i11) (h16 : f l1 = .inr (12, fs15)) (h17 : l1 < n) (h19 : fs15[13]? = some (.ref x18)) (h21 : f x18 = .inl (0, m20, .inl g20)) (h22 : x18 < n ∨ x18 = mi_SC) (h23 : mi_ix l2 m20 i20) (h24 : ¬ (g11 i11) = (g20 i20) → mi_W d 183 197 [some (.ref l1), some (.int l2), some (.int l3), o4, o5] [] (n, sl, f) Q) (h25 : ¬ (¬ (g11 i11) = (g20 i20)) → mi_W d 183 167 [some (.ref l1), some (.int l2), some (.int l3), o4, o5] [] (n, sl, f) Q) : mi_W d 183 152 [some (.ref l1), some (.int l2), some (.int l3), o4, o5] [] (n, sl, f) Q := by
  refine w_aload_n cd_183_152 rfl ?_
  refine w_getfield cd_183_153 (show mt_f 12 181 = some (12, 61) by decide +kernel) h7 h8 h10 ?_
  refine w_iload_n cd_183_156 rfl ?_
  refine w_iaload cd_183_157 h12 h13 h14 ?_
  refine w_aload_n cd_183_158 rfl ?_
  refine w_getfield cd_183_159 (show mt_f 12 80 = some (12, 13) by decide +kernel) h16 h17 h19 ?_
  refine w_iload_n cd_183_162 rfl ?_
  refine w_iaload cd_183_163 h21 h22 h23 ?_
  exact w_if_icmpne cd_183_164 (by decide) h24 h25
theorem b_183_167 {d : Nat} {Q : (Option Value ⊕ Nat) → mi_H → Prop} (n sl : Nat) (f : Nat → mi_C) {l1 : Nat} {l2 : Int32} {l3 : Int32} {o4 : Option Value} {o5 : Option Value} {fs6 : List Value} {x9 : Nat} (m11 i11 : Nat) (g11 : Nat → Int32) {fs15 : List Value} {x18 : Nat} (m20 i20 : Nat) (g20 : Nat → Int32) (h7 : f l1 = .inr (12, fs6)) (h8 : l1 < n) (h10 : fs6[62]? = some (.ref x9)) (h12 : f x9 = .inl (0, m11, .inl g11)) (h13 : x9 < n ∨ x9 = mi_SC) (h14 : mi_ix l3 m11 i11) (h16 : f l1 = .inr (12, fs15)) (h17 : l1 < n) (h19 : fs15[14]? = some (.ref x18)) (h21 : f x18 = .inl (0, m20, .inl g20)) (h22 : x18 < n ∨ x18 = mi_SC) (h23 : mi_ix l2 m20 i20) (h24 : ¬ (g11 i11) = (g20 i20) → mi_W d 183 197 [some (.ref l1), some (.int l2), some (.int l3), o4, o5] [] (n, sl, f) Q) (h25 : ¬ (¬ (g11 i11) = (g20 i20)) → mi_W d 183 182 [some (.ref l1), some (.int l2), some (.int l3), o4, o5] [] (n, sl, f) Q) : mi_W d 183 167 [some (.ref l1), some (.int l2), some (.int l3), o4, o5] [] (n, sl, f) Q := by
  refine w_aload_n cd_183_167 rfl ?_
  refine w_getfield cd_183_168 (show mt_f 12 184 = some (12, 62) by decide +kernel) h7 h8 h10 ?_
  refine w_iload_n cd_183_171 rfl ?_
  refine w_iaload cd_183_172 h12 h13 h14 ?_
  refine w_aload_n cd_183_173 rfl ?_
  refine w_getfield cd_183_174 (show mt_f 12 83 = some (12, 14) by decide +kernel) h16 h17 h19 ?_
  refine w_iload_n cd_183_177 rfl ?_
  refine w_iaload cd_183_178 h21 h22 h23 ?_
  exact w_if_icmpne cd_183_179 (by decide) h24 h25
theorem b_183_182 {d : Nat} {Q : (Option Value ⊕ Nat) → mi_H → Prop} (n sl : Nat) (f : Nat → mi_C) {l1 : Nat} {l2 : Int32} {l3 : Int32} {o4 : Option Value} {o5 : Option Value} {fs6 : List Value} {x9 : Nat} (m11 i11 : Nat) (g11 : Nat → Int32) {fs15 : List Value} {x18 : Nat} (m20 i20 : Nat) (g20 : Nat → Int32) (h7 : f l1 = .inr (12, fs6)) (h8 : l1 < n) (h10 : fs6[63]? = some (.ref x9)) (h12 : f x9 = .inl (0, m11, .inl g11)) (h13 : x9 < n ∨ x9 = mi_SC) (h14 : mi_ix l3 m11 i11) (h16 : f l1 = .inr (12, fs15)) (h17 : l1 < n) (h19 : fs15[15]? = some (.ref x18)) (h21 : f x18 = .inl (0, m20, .inl g20)) (h22 : x18 < n ∨ x18 = mi_SC) (h23 : mi_ix l2 m20 i20) (h24 : (g11 i11) = (g20 i20) → mi_W d 183 199 [some (.ref l1), some (.int l2), some (.int l3), o4, o5] [] (n, sl, f) Q) (h25 : ¬ ((g11 i11) = (g20 i20)) → mi_W d 183 197 [some (.ref l1), some (.int l2), some (.int l3), o4, o5] [] (n, sl, f) Q) : mi_W d 183 182 [some (.ref l1), some (.int l2), some (.int l3), o4, o5] [] (n, sl, f) Q := by
  refine w_aload_n cd_183_182 rfl ?_
  refine w_getfield cd_183_183 (show mt_f 12 187 = some (12, 63) by decide +kernel) h7 h8 h10 ?_
  refine w_iload_n cd_183_186 rfl ?_
  refine w_iaload cd_183_187 h12 h13 h14 ?_
  refine w_aload_n cd_183_188 rfl ?_
  refine w_getfield cd_183_189 (show mt_f 12 86 = some (12, 15) by decide +kernel) h16 h17 h19 ?_
  refine w_iload_n cd_183_192 rfl ?_
  refine w_iaload cd_183_193 h21 h22 h23 ?_
  exact w_if_icmpeq cd_183_194 (by decide) h24 h25
theorem b_183_197 {d : Nat} {Q : (Option Value ⊕ Nat) → mi_H → Prop} (n sl : Nat) (f : Nat → mi_C) {l1 : Nat} {l2 : Int32} {l3 : Int32} {o4 : Option Value} {o5 : Option Value} (h6 : Q (.inl (some (.int 0))) (n, sl, f)) : mi_W d 183 197 [some (.ref l1), some (.int l2), some (.int l3), o4, o5] [] (n, sl, f) Q := by
  refine w_iconst (v := 0) cd_183_197 (by decide) ?_
  exact w_ireturn_i cd_183_198 (by decide +kernel) h6
theorem b_183_199 {d : Nat} {Q : (Option Value ⊕ Nat) → mi_H → Prop} (n sl : Nat) (f : Nat → mi_C) {l1 : Nat} {l2 : Int32} {l3 : Int32} {o4 : Option Value} {o5 : Option Value} {fs6 : List Value} {x9 : Nat} (m11 i11 : Nat) (g11 : Nat → Int32) {fs15 : List Value} (h7 : f l1 = .inr (12, fs6)) (h8 : l1 < n) (h10 : fs6[16]? = some (.ref x9)) (h12 : f x9 = .inl (0, m11, .inl g11)) (h13 : x9 < n ∨ x9 = mi_SC) (h14 : mi_ix l2 m11 i11) (h16 : f l1 = .inr (12, fs15)) (h17 : l1 < n) (h18 : mi_W d 176 0 (mi_en 2 [.ref l1, .int (g11 i11)]) [] (n, sl, f) (mi_Kc d 183 206 [some (.ref l1), some (.int l2), some (.int l3), o4, o5] [] Q)) : mi_W (d + 1) 183 199 [some (.ref l1), some (.int l2), some (.int l3), o4, o5] [] (n, sl, f) Q := by
  refine w_aload_n cd_183_199 rfl ?_
  refine w_aload_n cd_183_200 rfl ?_
  refine w_getfield cd_183_201 (show mt_f 12 89 = some (12, 16) by decide +kernel) h7 h8 h10 ?_
  refine w_iload_n cd_183_204 rfl ?_
  refine w_iaload cd_183_205 h12 h13 h14 ?_
  exact w_invokevirtual cd_183_206 (show mt_m 12 451 = some (176, 0) by decide +kernel) (rest := []) rfl (as := [.ref l1, .int (g11 i11)]) rfl h16 (Or.inl h17) ⟨Nat.le_of_ble_eq_true rfl, Nat.le_of_ble_eq_true rfl, Nat.le_of_ble_eq_true rfl⟩ h18
theorem b_183_209 {d : Nat} {Q : (Option Value ⊕ Nat) → mi_H → Prop} (n sl : Nat) (f : Nat → mi_C) {l1 : Nat} {l2 : Int32} {l3 : Int32} {o4 : Option Value} {o5 : Option Value} {s6 : Int64} {fs7 : List Value} {x10 : Int32} (h8 : f l1 = .inr (12, fs7)) (h9 : l1 < n) (h11 : fs7[46]? = some (.int x10)) (h12 : x10 = (0 : Int32) → mi_W d 183 222 [some (.ref l1), some (.int l2), some (.int l3), some (.long s6), none] [] (n, sl, f) Q) (h13 : ¬ (x10 = (0 : Int32)) → mi_W d 183 217 [some (.ref l1), some (.int l2), some (.int l3), some (.long s6), none] [] (n, sl, f) Q) : mi_W d 183 209 [some (.ref l1), some (.int l2), some (.int l3), o4, o5] [.long s6] (n, sl, f) Q := by
  refine w_lstore_n (ls' := [some (.ref l1), some (.int l2), some (.int l3), some (.long s6), none]) cd_183_209 (Nat.le_of_ble_eq_true rfl) rfl ?_
  refine w_aload_n cd_183_210 rfl ?_
  refine w_getfield cd_183_211 (show mt_f 12 441 = some (12, 46) by decide +kernel) h8 h9 h11 ?_
  exact w_ifeq cd_183_214 (by decide) h12 h13
theorem b_183_217 {d : Nat} {Q : (Option Value ⊕ Nat) → mi_H → Prop} (n sl : Nat) (f : Nat → mi_C) {l1 : Nat} {l2 : Int32} {l3 : Int32} {l4 : Int64} (h5 : mi_W d 183 238 [some (.ref l1), some (.int l2), some (.int l3), some (.long l4), none] [.int 6] (n, sl, f) Q) : mi_W d 183 217 [some (.ref l1), some (.int l2), some (.int l3), some (.long l4), none] [] (n, sl, f) Q := by
  refine w_bipush (v := 6) cd_183_217 (by decide) ?_
  exact w_goto cd_183_219 (by decide) h5
theorem b_183_222 {d : Nat} {Q : (Option Value ⊕ Nat) → mi_H → Prop} (n sl : Nat) (f : Nat → mi_C) {l1 : Nat} {l2 : Int32} {l3 : Int32} {l4 : Int64} {fs5 : List Value} {x8 : Nat} (m10 i10 : Nat) (g10 : Nat → Int64) (h6 : f l1 = .inr (12, fs5)) (h7 : l1 < n) (h9 : fs5[64]? = some (.ref x8)) (h11 : f x8 = .inl (3, m10, .inr (.inl g10))) (h12 : x8 < n) (h13 : mi_ix l3 m10 i10) (h14 : ¬ (lg_cmp l4 (g10 i10)) = (0 : Int32) → mi_W d 183 237 [some (.ref l1), some (.int l2), some (.int l3), some (.long l4), none] [] (n, sl, f) Q) (h15 : ¬ (¬ (lg_cmp l4 (g10 i10)) = (0 : Int32)) → mi_W d 183 233 [some (.ref l1), some (.int l2), some (.int l3), some (.long l4), none] [] (n, sl, f) Q) : mi_W d 183 222 [some (.ref l1), some (.int l2), some (.int l3), some (.long l4), none] [] (n, sl, f) Q := by
  refine w_lload_n cd_183_222 rfl ?_
  refine w_aload_n cd_183_223 rfl ?_
  refine w_getfield cd_183_224 (show mt_f 12 190 = some (12, 64) by decide +kernel) h6 h7 h9 ?_
  refine w_iload_n cd_183_227 rfl ?_
  refine w_laload cd_183_228 h11 h12 h13 ?_
  refine w_lcmp cd_183_229 ?_
  exact w_ifne cd_183_230 (by decide) h14 h15
theorem b_183_233 {d : Nat} {Q : (Option Value ⊕ Nat) → mi_H → Prop} (n sl : Nat) (f : Nat → mi_C) {l1 : Nat} {l2 : Int32} {l3 : Int32} {l4 : Int64} (h5 : mi_W d 183 238 [some (.ref l1), some (.int l2), some (.int l3), some (.long l4), none] [.int 1] (n, sl, f) Q) : mi_W d 183 233 [some (.ref l1), some (.int l2), some (.int l3), some (.long l4), none] [] (n, sl, f) Q := by
  refine w_iconst (v := 1) cd_183_233 (by decide) ?_
  exact w_goto cd_183_234 (by decide) h5
theorem b_183_237 {d : Nat} {Q : (Option Value ⊕ Nat) → mi_H → Prop} (n sl : Nat) (f : Nat → mi_C) {l1 : Nat} {l2 : Int32} {l3 : Int32} {l4 : Int64} (h5 : mi_W d 183 238 [some (.ref l1), some (.int l2), some (.int l3), some (.long l4), none] [.int 0] (n, sl, f) Q) : mi_W d 183 237 [some (.ref l1), some (.int l2), some (.int l3), some (.long l4), none] [] (n, sl, f) Q := by
  refine w_iconst (v := 0) cd_183_237 (by decide) ?_
  exact h5
theorem b_183_238 {d : Nat} {Q : (Option Value ⊕ Nat) → mi_H → Prop} (n sl : Nat) (f : Nat → mi_C) {l1 : Nat} {l2 : Int32} {l3 : Int32} {l4 : Int64} {s5 : Int32} (h6 : Q (.inl (some (.int s5))) (n, sl, f)) : mi_W d 183 238 [some (.ref l1), some (.int l2), some (.int l3), some (.long l4), none] [.int s5] (n, sl, f) Q := by
  exact w_ireturn_i cd_183_238 (by decide +kernel) h6
/-! MarloweHostModel.settle()I -/
theorem cd_184_0 : mt_cd 184 0 = some (.iconst 0) := by decide +kernel
theorem cd_184_1 : mt_cd 184 1 = some (.istore_n 1) := by decide +kernel
theorem cd_184_2 : mt_cd 184 2 = some (.iload_n 1) := by decide +kernel
theorem cd_184_3 : mt_cd 184 3 = some (.iconst 2) := by decide +kernel
theorem cd_184_4 : mt_cd 184 4 = some (.if_icmp .ge 121) := by decide +kernel
theorem cd_184_7 : mt_cd 184 7 = some (.iconst 0) := by decide +kernel
theorem cd_184_8 : mt_cd 184 8 = some (.istore_n 2) := by decide +kernel
theorem cd_184_9 : mt_cd 184 9 = some (.iload_n 2) := by decide +kernel
theorem cd_184_10 : mt_cd 184 10 = some (.bipush 32) := by decide +kernel
theorem cd_184_12 : mt_cd 184 12 = some (.if_icmp .ge 107) := by decide +kernel
theorem cd_184_15 : mt_cd 184 15 = some (.aload_n 0) := by decide +kernel
theorem cd_184_16 : mt_cd 184 16 = some (.getfield 175) := by decide +kernel
theorem cd_184_19 : mt_cd 184 19 = some (.iload_n 2) := by decide +kernel
theorem cd_184_20 : mt_cd 184 20 = some (.laload) := by decide +kernel
theorem cd_184_21 : mt_cd 184 21 = some (.aload_n 0) := by decide +kernel
theorem cd_184_22 : mt_cd 184 22 = some (.getfield 172) := by decide +kernel
theorem cd_184_25 : mt_cd 184 25 = some (.iload_n 2) := by decide +kernel
theorem cd_184_26 : mt_cd 184 26 = some (.laload) := by decide +kernel
theorem cd_184_27 : mt_cd 184 27 = some (.lsub) := by decide +kernel
theorem cd_184_28 : mt_cd 184 28 = some (.lstore_n 3) := by decide +kernel
theorem cd_184_29 : mt_cd 184 29 = some (.iconst 0) := by decide +kernel
theorem cd_184_30 : mt_cd 184 30 = some (.istore 5) := by decide +kernel
theorem cd_184_32 : mt_cd 184 32 = some (.iload 5) := by decide +kernel
theorem cd_184_34 : mt_cd 184 34 = some (.aload_n 0) := by decide +kernel
theorem cd_184_35 : mt_cd 184 35 = some (.getfield 493) := by decide +kernel
theorem cd_184_38 : mt_cd 184 38 = some (.if_icmp .ge 52) := by decide +kernel
theorem cd_184_41 : mt_cd 184 41 = some (.iconst 4) := by decide +kernel
theorem cd_184_42 : mt_cd 184 42 = some (.aload_n 0) := by decide +kernel
theorem cd_184_43 : mt_cd 184 43 = some (.getfield 163) := by decide +kernel
theorem cd_184_46 : mt_cd 184 46 = some (.iload 5) := by decide +kernel
theorem cd_184_48 : mt_cd 184 48 = some (.iaload) := by decide +kernel
theorem cd_184_49 : mt_cd 184 49 = some (.imul) := by decide +kernel
theorem cd_184_50 : mt_cd 184 50 = some (.aload_n 0) := by decide +kernel
theorem cd_184_51 : mt_cd 184 51 = some (.getfield 166) := by decide +kernel
theorem cd_184_54 : mt_cd 184 54 = some (.iload 5) := by decide +kernel
theorem cd_184_56 : mt_cd 184 56 = some (.iaload) := by decide +kernel
theorem cd_184_57 : mt_cd 184 57 = some (.iadd) := by decide +kernel
theorem cd_184_58 : mt_cd 184 58 = some (.iload_n 2) := by decide +kernel
theorem cd_184_59 : mt_cd 184 59 = some (.if_icmp .eq 6) := by decide +kernel
theorem cd_184_62 : mt_cd 184 62 = some (.goto 22) := by decide +kernel
theorem cd_184_65 : mt_cd 184 65 = some (.lload_n 3) := by decide +kernel
theorem cd_184_66 : mt_cd 184 66 = some (.aload_n 0) := by decide +kernel
theorem cd_184_67 : mt_cd 184 67 = some (.getfield 169) := by decide +kernel
theorem cd_184_70 : mt_cd 184 70 = some (.iload 5) := by decide +kernel
theorem cd_184_72 : mt_cd 184 72 = some (.laload) := by decide +kernel
theorem cd_184_73 : mt_cd 184 73 = some (.ladd) := by decide +kernel
theorem cd_184_74 : mt_cd 184 74 = some (.lstore_n 3) := by decide +kernel
theorem cd_184_75 : mt_cd 184 75 = some (.lload_n 3) := by decide +kernel
theorem cd_184_76 : mt_cd 184 76 = some (.lconst 0) := by decide +kernel
theorem cd_184_77 : mt_cd 184 77 = some (.lcmp) := by decide +kernel
theorem cd_184_78 : mt_cd 184 78 = some (.ifCond .ge 6) := by decide +kernel
theorem cd_184_81 : mt_cd 184 81 = some (.bipush 6) := by decide +kernel
theorem cd_184_83 : mt_cd 184 83 = some (.ireturn) := by decide +kernel
theorem cd_184_84 : mt_cd 184 84 = some (.iinc 5 1) := by decide +kernel
theorem cd_184_87 : mt_cd 184 87 = some (.goto (-55)) := by decide +kernel
theorem cd_184_90 : mt_cd 184 90 = some (.lload_n 3) := by decide +kernel
theorem cd_184_91 : mt_cd 184 91 = some (.ldc2_w 437) := by decide +kernel
theorem cd_184_94 : mt_cd 184 94 = some (.lcmp) := by decide +kernel
theorem cd_184_95 : mt_cd 184 95 = some (.ifCond .le 6) := by decide +kernel
theorem cd_184_98 : mt_cd 184 98 = some (.bipush 6) := by decide +kernel
theorem cd_184_100 : mt_cd 184 100 = some (.ireturn) := by decide +kernel
theorem cd_184_101 : mt_cd 184 101 = some (.iload_n 1) := by decide +kernel
theorem cd_184_102 : mt_cd 184 102 = some (.iconst 1) := by decide +kernel
theorem cd_184_103 : mt_cd 184 103 = some (.if_icmp .ne 10) := by decide +kernel
theorem cd_184_106 : mt_cd 184 106 = some (.aload_n 0) := by decide +kernel
theorem cd_184_107 : mt_cd 184 107 = some (.getfield 175) := by decide +kernel
theorem cd_184_110 : mt_cd 184 110 = some (.iload_n 2) := by decide +kernel
theorem cd_184_111 : mt_cd 184 111 = some (.lload_n 3) := by decide +kernel
theorem cd_184_112 : mt_cd 184 112 = some (.lastore) := by decide +kernel
theorem cd_184_113 : mt_cd 184 113 = some (.iinc 2 1) := by decide +kernel
theorem cd_184_116 : mt_cd 184 116 = some (.goto (-107)) := by decide +kernel
theorem cd_184_119 : mt_cd 184 119 = some (.iinc 1 1) := by decide +kernel
theorem cd_184_122 : mt_cd 184 122 = some (.goto (-120)) := by decide +kernel
theorem cd_184_125 : mt_cd 184 125 = some (.iconst 0) := by decide +kernel
theorem cd_184_126 : mt_cd 184 126 = some (.ireturn) := by decide +kernel
theorem b_184_0 {d : Nat} {Q : (Option Value ⊕ Nat) → mi_H → Prop} (n sl : Nat) (f : Nat → mi_C) {l1 : Nat} {o2 : Option Value} {o3 : Option Value} {o4 : Option Value} {o5 : Option Value} {o6 : Option Value} (h7 : mi_W d 184 2 [some (.ref l1), some (.int 0), o3, o4, o5, o6] [] (n, sl, f) Q) : mi_W d 184 0 [some (.ref l1), o2, o3, o4, o5, o6] [] (n, sl, f) Q := by
  refine w_iconst (v := 0) cd_184_0 (by decide) ?_
  refine w_istore_n (ls' := [some (.ref l1), some (.int 0), o3, o4, o5, o6]) cd_184_1 (Nat.le_of_ble_eq_true rfl) rfl ?_
  exact h7
theorem b_184_2 {d : Nat} {Q : (Option Value ⊕ Nat) → mi_H → Prop} (n sl : Nat) (f : Nat → mi_C) {l1 : Nat} {l2 : Int32} {o3 : Option Value} {o4 : Option Value} {o5 : Option Value} {o6 : Option Value} (h7 : 2 ≤ l2 → mi_W d 184 125 [some (.ref l1), some (.int l2), o3, o4, o5, o6] [] (n, sl, f) Q) (h8 : ¬ (2 ≤ l2) → mi_W d 184 7 [some (.ref l1), some (.int l2), o3, o4, o5, o6] [] (n, sl, f) Q) : mi_W d 184 2 [some (.ref l1), some (.int l2), o3, o4, o5, o6] [] (n, sl, f) Q := by
  refine w_iload_n cd_184_2 rfl ?_
  refine w_iconst (v := 2) cd_184_3 (by decide) ?_
  exact w_if_icmpge cd_184_4 (by decide) h7 h8
theorem b_184_7 {d : Nat} {Q : (Option Value ⊕ Nat) → mi_H → Prop} (n sl : Nat) (f : Nat → mi_C) {l1 : Nat} {l2 : Int32} {o3 : Option Value} {o4 : Option Value} {o5 : Option Value} {o6 : Option Value} (h7 : mi_W d 184 9 [some (.ref l1), some (.int l2), some (.int 0), o4, o5, o6] [] (n, sl, f) Q) : mi_W d 184 7 [some (.ref l1), some (.int l2), o3, o4, o5, o6] [] (n, sl, f) Q := by
  refine w_iconst (v := 0) cd_184_7 (by decide) ?_
  refine w_istore_n (ls' := [some (.ref l1), some (.int l2), some (.int 0), o4, o5, o6]) cd_184_8 (Nat.le_of_ble_eq_true rfl) rfl ?_
  exact h7
theorem b_184_9 {d : Nat} {Q : (Option Value ⊕ Nat) → mi_H → Prop} (n sl : Nat) (f : Nat → mi_C) {l1 : Nat} {l2 : Int32} {l3 : Int32} {o4 : Option Value} {o5 : Option Value} {o6 : Option Value} (h7 : 32 ≤ l3 → mi_W d 184 119 [some (.ref l1), some (.int l2), some (.int l3), o4, o5, o6] [] (n, sl, f) Q) (h8 : ¬ (32 ≤ l3) → mi_W d 184 15 [some (.ref l1), some (.int l2), some (.int l3), o4, o5, o6] [] (n, sl, f) Q) : mi_W d 184 9 [some (.ref l1), some (.int l2), some (.int l3), o4, o5, o6] [] (n, sl, f) Q := by
  refine w_iload_n cd_184_9 rfl ?_
  refine w_bipush (v := 32) cd_184_10 (by decide) ?_
  exact w_if_icmpge cd_184_12 (by decide) h7 h8
theorem b_184_15 {d : Nat} {Q : (Option Value ⊕ Nat) → mi_H → Prop} (n sl : Nat) (f : Nat → mi_C) {l1 : Nat} {l2 : Int32} {l3 : Int32} {o4 : Option Value} {o5 : Option Value} {o6 : Option Value} {fs7 : List Value} {x10 : Nat} (m12 i12 : Nat) (g12 : Nat → Int64) {fs16 : List Value} {x19 : Nat} (m21 i21 : Nat) (g21 : Nat → Int64) (h8 : f l1 = .inr (12, fs7)) (h9 : l1 < n) (h11 : fs7[56]? = some (.ref x10)) (h13 : f x10 = .inl (3, m12, .inr (.inl g12))) (h14 : x10 < n) (h15 : mi_ix l3 m12 i12) (h17 : f l1 = .inr (12, fs16)) (h18 : l1 < n) (h20 : fs16[55]? = some (.ref x19)) (h22 : f x19 = .inl (3, m21, .inr (.inl g21))) (h23 : x19 < n) (h24 : mi_ix l3 m21 i21) (h25 : mi_W d 184 32 [some (.ref l1), some (.int l2), some (.int l3), some (.long ((g12 i12) - (g21 i21))), none, some (.int 0)] [] (n, sl, f) Q) : mi_W d 184 15 [some (.ref l1), some (.int l2), some (.int l3), o4, o5, o6] [] (n, sl, f) Q := by
  refine w_aload_n cd_184_15 rfl ?_
  refine w_getfield cd_184_16 (show mt_f 12 175 = some (12, 56) by decide +kernel) h8 h9 h11 ?_
  refine w_iload_n cd_184_19 rfl ?_
  refine w_laload cd_184_20 h13 h14 h15 ?_
  refine w_aload_n cd_184_21 rfl ?_
  refine w_getfield cd_184_22 (show mt_f 12 172 = some (12, 55) by decide +kernel) h17 h18 h20 ?_
  refine w_iload_n cd_184_25 rfl ?_
  refine w_laload cd_184_26 h22 h23 h24 ?_
  refine w_lsub cd_184_27 ?_
  refine w_lstore_n (ls' := [some (.ref l1), some (.int l2), some (.int l3), some (.long ((g12 i12) - (g21 i21))), none, o6]) cd_184_28 (Nat.le_of_ble_eq_true rfl) rfl ?_
  refine w_iconst (v := 0) cd_184_29 (by decide) ?_
  refine w_istore (ls' := [some (.ref l1), some (.int l2), some (.int l3), some (.long ((g12 i12) - (g21 i21))), none, some (.int 0)]) cd_184_30 (Nat.le_of_ble_eq_true rfl) rfl ?_
  exact h25
theorem b_184_32 {d : Nat} {Q : (Option Value ⊕ Nat) → mi_H → Prop} (n sl : Nat) (f : Nat → mi_C) {l1 : Nat} {l2 : Int32} {l3 : Int32} {l4 : Int64} {l5 : Int32} {fs6 : List Value} {x9 : Int32} (h7 : f l1 = .inr (12, fs6)) (h8 : l1 < n) (h10 : fs6[48]? = some (.int x9)) (h11 : x9 ≤ l5 → mi_W d 184 90 [some (.ref l1), some (.int l2), some (.int l3), some (.long l4), none, some (.int l5)] [] (n, sl, f) Q) (h12 : ¬ (x9 ≤ l5) → mi_W d 184 41 [some (.ref l1), some (.int l2), some (.int l3), some (.long l4), none, some (.int l5)] [] (n, sl, f) Q) : mi_W d 184 32 [some (.ref l1), some (.int l2), some (.int l3), some (.long l4), none, some (.int l5)] [] (n, sl, f) Q := by
  refine w_iload cd_184_32 rfl ?_
  refine w_aload_n cd_184_34 rfl ?_
  refine w_getfield cd_184_35 (show mt_f 12 493 = some (12, 48) by decide +kernel) h7 h8 h10 ?_
  exact w_if_icmpge cd_184_38 (by decide) h11 h12
theorem b_184_41 {d : Nat} {Q : (Option Value ⊕ Nat) → mi_H → Prop} (n sl : Nat) (f : Nat → mi_C) {l1 : Nat} {l2 : Int32} {l3 : Int32} {l4 : Int64} {l5 : Int32} {fs6 : List Value} {x9 : Nat} (m11 i11 : Nat) (g11 : Nat → Int32) {fs15 : List Value} {x18 : Nat} (m20 i20 : Nat) (g20 : Nat → Int32) (h7 : f l1 = .inr (12, fs6)) (h8 : l1 < n) (h10 : fs6[52]? = some (.ref x9)) (h12 : f x9 = .inl (0, m11, .inl g11)) (h13 : x9 < n ∨ x9 = mi_SC) (h14 : mi_ix l5 m11 i11) (h16 : f l1 = .inr (12, fs15)) (h17 : l1 < n) (h19 : fs15[53]? = some (.ref x18)) (h21 : f x18 = .inl (0, m20, .inl g20)) (h22 : x18 < n ∨ x18 = mi_SC) (h23 : mi_ix l5 m20 i20) (h24 : ((4 * (g11 i11)) + (g20 i20)) = l3 → mi_W d 184 65 [some (.ref l1), some (.int l2), some (.int l3), some (.long l4), none, some (.int l5)] [] (n, sl, f) Q) (h25 : ¬ (((4 * (g11 i11)) + (g20 i20)) = l3) → mi_W d 184 62 [some (.ref l1), some (.int l2), some (.int l3), some (.long l4), none, some (.int l5)] [] (n, sl, f) Q) : mi_W d 184 41 [some (.ref l1), some (.int l2), some (.int l3), some (.long l4), none, some (.int l5)] [] (n, sl, f) Q := by
  refine w_iconst (v := 4) cd_184_41 (by decide) ?_
  refine w_aload_n cd_184_42 rfl ?_
  refine w_getfield cd_184_43 (show mt_f 12 163 = some (12, 52) by decide +kernel) h7 h8 h10 ?_
  refine w_iload cd_184_46 rfl ?_
  refine w_iaload cd_184_48 h12 h13 h14 ?_
  refine w_imul cd_184_49 ?_
  refine w_aload_n cd_184_50 rfl ?_
  refine w_getfield cd_184_51 (show mt_f 12 166 = some (12, 53) by decide +kernel) h16 h17 h19 ?_
  refine w_iload cd_184_54 rfl ?_
  refine w_iaload cd_184_56 h21 h22 h23 ?_
  refine w_iadd cd_184_57 ?_
  refine w_iload_n cd_184_58 rfl ?_
  exact w_if_icmpeq cd_184_59 (by decide) h24 h25
theorem b_184_62 {d : Nat} {Q : (Option Value ⊕ Nat) → mi_H → Prop} (n sl : Nat) (f : Nat → mi_C) {l1 : Nat} {l2 : Int32} {l3 : Int32} {l4 : Int64} {l5 : Int32} (h6 : mi_W d 184 84 [some (.ref l1), some (.int l2), some (.int l3), some (.long l4), none, some (.int l5)] [] (n, sl, f) Q) : mi_W d 184 62 [some (.ref l1), some (.int l2), some (.int l3), some (.long l4), none, some (.int l5)] [] (n, sl, f) Q := by
  exact w_goto cd_184_62 (by decide) h6
theorem b_184_65 {d : Nat} {Q : (Option Value ⊕ Nat) → mi_H → Prop} (n sl : Nat) (f : Nat → mi_C) {l1 : Nat} {l2 : Int32} {l3 : Int32} {l4 : Int64} {l5 : Int32} {fs6 : List Value} {x9 : Nat} (m11 i11 : Nat) (g11 : Nat → Int64) (h7 : f l1 = .inr (12, fs6)) (h8 : l1 < n) (h10 : fs6[54]? = some (.ref x9)) (h12 : f x9 = .inl (3, m11, .inr (.inl g11))) (h13 : x9 < n) (h14 : mi_ix l5 m11 i11) (h15 : (0 : Int32) ≤ (lg_cmp (l4 + (g11 i11)) 0) → mi_W d 184 84 [some (.ref l1), some (.int l2), some (.int l3), some (.long (l4 + (g11 i11))), none, some (.int l5)] [] (n, sl, f) Q) (h16 : ¬ ((0 : Int32) ≤ (lg_cmp (l4 + (g11 i11)) 0)) → mi_W d 184 81 [some (.ref l1), some (.int l2), some (.int l3), some (.long (l4 + (g11 i11))), none, some (.int l5)] [] (n, sl, f) Q) : mi_W d 184 65 [some (.ref l1), some (.int l2), some (.int l3), some (.long l4), none, some (.int l5)] [] (n, sl, f) Q := by
  refine w_lload_n cd_184_65 rfl ?_
  refine w_aload_n cd_184_66 rfl ?_
  refine w_getfield cd_184_67 (show mt_f 12 169 = some (12, 54) by decide +kernel) h7 h8 h10 ?_
  refine w_iload cd_184_70 rfl ?_
  refine w_laload cd_184_72 h12 h13 h14 ?_
  refine w_ladd cd_184_73 ?_
  refine w_lstore_n (ls' := [some (.ref l1), some (.int l2), some (.int l3), some (.long (l4 + (g11 i11))), none, some (.int l5)]) cd_184_74 (Nat.le_of_ble_eq_true rfl) rfl ?_
  refine w_lload_n cd_184_75 rfl ?_
  refine w_lconst (lv := 0) cd_184_76 (by decide) ?_
  refine w_lcmp cd_184_77 ?_
  exact w_ifge cd_184_78 (by decide) h15 h16
theorem b_184_81 {d : Nat} {Q : (Option Value ⊕ Nat) → mi_H → Prop} (n sl : Nat) (f : Nat → mi_C) {l1 : Nat} {l2 : Int32} {l3 : Int32} {l4 : Int64} {l5 : Int32} (h6 : Q (.inl (some (.int 6))) (n, sl, f)) : mi_W d 184 81 [some (.ref l1), some (.int l2), some (.int l3), some (.long l4), none, some (.int l5)] [] (n, sl, f) Q := by
  refine w_bipush (v := 6) cd_184_81 (by decide) ?_
  exact w_ireturn_i cd_184_83 (by decide +kernel) h6
theorem b_184_84 {d : Nat} {Q : (Option Value ⊕ Nat) → mi_H → Prop} (n sl : Nat) (f : Nat → mi_C) {l1 : Nat} {l2 : Int32} {l3 : Int32} {l4 : Int64} {l5 : Int32} (h6 : mi_W d 184 32 [some (.ref l1), some (.int l2), some (.int l3), some (.long l4), none, some (.int (l5 + 1))] [] (n, sl, f) Q) : mi_W d 184 84 [some (.ref l1), some (.int l2), some (.int l3), some (.long l4), none, some (.int l5)] [] (n, sl, f) Q := by
  refine w_iinc (v := 1) (ls' := [some (.ref l1), some (.int l2), some (.int l3), some (.long l4), none, some (.int (l5 + 1))]) cd_184_84 rfl (by decide) rfl ?_
  exact w_goto cd_184_87 (by decide) h6
theorem b_184_90 {d : Nat} {Q : (Option Value ⊕ Nat) → mi_H → Prop} (n sl : Nat) (f : Nat → mi_C) {l1 : Nat} {l2 : Int32} {l3 : Int32} {l4 : Int64} {l5 : Int32} (h6 : (lg_cmp l4 4611686018427387904) ≤ (0 : Int32) → mi_W d 184 101 [some (.ref l1), some (.int l2), some (.int l3), some (.long l4), none, some (.int l5)] [] (n, sl, f) Q) (h7 : ¬ ((lg_cmp l4 4611686018427387904) ≤ (0 : Int32)) → mi_W d 184 98 [some (.ref l1), some (.int l2), some (.int l3), some (.long l4), none, some (.int l5)] [] (n, sl, f) Q) : mi_W d 184 90 [some (.ref l1), some (.int l2), some (.int l3), some (.long l4), none, some (.int l5)] [] (n, sl, f) Q := by
  refine w_lload_n cd_184_90 rfl ?_
  refine w_ldc2_w (lv := 4611686018427387904) cd_184_91 (by decide +kernel) ?_
  refine w_lcmp cd_184_94 ?_
  exact w_ifle cd_184_95 (by decide) h6 h7
theorem b_184_98 {d : Nat} {Q : (Option Value ⊕ Nat) → mi_H → Prop} (n sl : Nat) (f : Nat → mi_C) {l1 : Nat} {l2 : Int32} {l3 : Int32} {l4 : Int64} {l5 : Int32} (h6 : Q (.inl (some (.int 6))) (n, sl, f)) : mi_W d 184 98 [some (.ref l1), some (.int l2), some (.int l3), some (.long l4), none, some (.int l5)] [] (n, sl, f) Q := by
  refine w_bipush (v := 6) cd_184_98 (by decide) ?_
  exact w_ireturn_i cd_184_100 (by decide +kernel) h6
theorem b_184_101 {d : Nat} {Q : (Option Value ⊕ Nat) → mi_H → Prop} (n sl : Nat) (f : Nat → mi_C) {l1 : Nat} {l2 : Int32} {l3 : Int32} {l4 : Int64} {l5 : Int32} (h6 : ¬ l2 = 1 → mi_W d 184 113 [some (.ref l1), some (.int l2), some (.int l3), some (.long l4), none, some (.int l5)] [] (n, sl, f) Q) (h7 : ¬ (¬ l2 = 1) → mi_W d 184 106 [some (.ref l1), some (.int l2), some (.int l3), some (.long l4), none, some (.int l5)] [] (n, sl, f) Q) : mi_W d 184 101 [some (.ref l1), some (.int l2), some (.int l3), some (.long l4), none, some (.int l5)] [] (n, sl, f) Q := by
  refine w_iload_n cd_184_101 rfl ?_
  refine w_iconst (v := 1) cd_184_102 (by decide) ?_
  exact w_if_icmpne cd_184_103 (by decide) h6 h7
theorem b_184_106 {d : Nat} {Q : (Option Value ⊕ Nat) → mi_H → Prop} (n sl : Nat) (f : Nat → mi_C) {l1 : Nat} {l2 : Int32} {l3 : Int32} {l4 : Int64} {l5 : Int32} {fs6 : List Value} {x9 : Nat} (m11 i11 : Nat) (g11 : Nat → Int64) (h7 : f l1 = .inr (12, fs6)) (h8 : l1 < n) (h10 : fs6[56]? = some (.ref x9)) (h12 : f x9 = .inl (3, m11, .inr (.inl g11))) (h13 : x9 < n) (h14 : mi_ix l3 m11 i11) (h15 : mi_W d 184 113 [some (.ref l1), some (.int l2), some (.int l3), some (.long l4), none, some (.int l5)] [] (n, sl, (va_up f x9 (.inl (3, m11, .inr (.inl (vp_updL g11 i11 l4)))))) Q) : mi_W d 184 106 [some (.ref l1), some (.int l2), some (.int l3), some (.long l4), none, some (.int l5)] [] (n, sl, f) Q := by
  refine w_aload_n cd_184_106 rfl ?_
  refine w_getfield cd_184_107 (show mt_f 12 175 = some (12, 56) by decide +kernel) h7 h8 h10 ?_
  refine w_iload_n cd_184_110 rfl ?_
  refine w_lload_n cd_184_111 rfl ?_
  refine w_lastore cd_184_112 h12 h13 h14 ?_
  exact h15
theorem b_184_113 {d : Nat} {Q : (Option Value ⊕ Nat) → mi_H → Prop} (n sl : Nat) (f : Nat → mi_C) {l1 : Nat} {l2 : Int32} {l3 : Int32} {l4 : Int64} {l5 : Int32} (h6 : mi_W d 184 9 [some (.ref l1), some (.int l2), some (.int (l3 + 1)), some (.long l4), none, some (.int l5)] [] (n, sl, f) Q) : mi_W d 184 113 [some (.ref l1), some (.int l2), some (.int l3), some (.long l4), none, some (.int l5)] [] (n, sl, f) Q := by
  refine w_iinc (v := 1) (ls' := [some (.ref l1), some (.int l2), some (.int (l3 + 1)), some (.long l4), none, some (.int l5)]) cd_184_113 rfl (by decide) rfl ?_
  exact w_goto cd_184_116 (by decide) h6
theorem b_184_119 {d : Nat} {Q : (Option Value ⊕ Nat) → mi_H → Prop} (n sl : Nat) (f : Nat → mi_C) {l1 : Nat} {l2 : Int32} {l3 : Int32} {o4 : Option Value} {o5 : Option Value} {o6 : Option Value} (h7 : mi_W d 184 2 [some (.ref l1), some (.int (l2 + 1)), some (.int l3), o4, o5, o6] [] (n, sl, f) Q) : mi_W d 184 119 [some (.ref l1), some (.int l2), some (.int l3), o4, o5, o6] [] (n, sl, f) Q := by
  refine w_iinc (v := 1) (ls' := [some (.ref l1), some (.int (l2 + 1)), some (.int l3), o4, o5, o6]) cd_184_119 rfl (by decide) rfl ?_
  exact w_goto cd_184_122 (by decide) h7
theorem b_184_125 {d : Nat} {Q : (Option Value ⊕ Nat) → mi_H → Prop} (n sl : Nat) (f : Nat → mi_C) {l1 : Nat} {l2 : Int32} {o3 : Option Value} {o4 : Option Value} {o5 : Option Value} {o6 : Option Value} (h7 : Q (.inl (some (.int 0))) (n, sl, f)) : mi_W d 184 125 [some (.ref l1), some (.int l2), o3, o4, o5, o6] [] (n, sl, f) Q := by
  refine w_iconst (v := 0) cd_184_125 (by decide) ?_
  exact w_ireturn_i cd_184_126 (by decide +kernel) h7
/-! MarloweHostModel.wallet(IIJ)J -/
theorem cd_185_0 : mt_cd 185 0 = some (.aload_n 0) := by decide +kernel
theorem cd_185_1 : mt_cd 185 1 = some (.iconst 0) := by decide +kernel
theorem cd_185_2 : mt_cd 185 2 = some (.putfield 248) := by decide +kernel
theorem cd_185_5 : mt_cd 185 5 = some (.aload_n 0) := by decide +kernel
theorem cd_185_6 : mt_cd 185 6 = some (.iload_n 1) := by decide +kernel
theorem cd_185_7 : mt_cd 185 7 = some (.i2l) := by decide +kernel
theorem cd_185_8 : mt_cd 185 8 = some (.lconst 0) := by decide +kernel
theorem cd_185_9 : mt_cd 185 9 = some (.ldc2_w 542) := by decide +kernel
theorem cd_185_12 : mt_cd 185 12 = some (.invokestatic 268) := by decide +kernel
theorem cd_185_15 : mt_cd 185 15 = some (.ifCond .eq 26) := by decide +kernel
theorem cd_185_18 : mt_cd 185 18 = some (.iload_n 2) := by decide +kernel
theorem cd_185_19 : mt_cd 185 19 = some (.i2l) := by decide +kernel
theorem cd_185_20 : mt_cd 185 20 = some (.lconst 0) := by decide +kernel
theorem cd_185_21 : mt_cd 185 21 = some (.ldc2_w 544) := by decide +kernel
theorem cd_185_24 : mt_cd 185 24 = some (.invokestatic 268) := by decide +kernel
theorem cd_185_27 : mt_cd 185 27 = some (.ifCond .eq 14) := by decide +kernel
theorem cd_185_30 : mt_cd 185 30 = some (.lload_n 3) := by decide +kernel
theorem cd_185_31 : mt_cd 185 31 = some (.lconst 0) := by decide +kernel
theorem cd_185_32 : mt_cd 185 32 = some (.ldc2_w 546) := by decide +kernel
theorem cd_185_35 : mt_cd 185 35 = some (.invokestatic 268) := by decide +kernel
theorem cd_185_38 : mt_cd 185 38 = some (.ifCond .ne 7) := by decide +kernel
theorem cd_185_41 : mt_cd 185 41 = some (.iconst 1) := by decide +kernel
theorem cd_185_42 : mt_cd 185 42 = some (.goto 4) := by decide +kernel
theorem cd_185_45 : mt_cd 185 45 = some (.iconst 0) := by decide +kernel
theorem cd_185_46 : mt_cd 185 46 = some (.iconst 1) := by decide +kernel
theorem cd_185_47 : mt_cd 185 47 = some (.invokevirtual 254) := by decide +kernel
theorem cd_185_50 : mt_cd 185 50 = some (.ifCond .eq 5) := by decide +kernel
theorem cd_185_53 : mt_cd 185 53 = some (.lconst 0) := by decide +kernel
theorem cd_185_54 : mt_cd 185 54 = some (.lreturn) := by decide +kernel
theorem cd_185_55 : mt_cd 185 55 = some (.aload_n 0) := by decide +kernel
theorem cd_185_56 : mt_cd 185 56 = some (.getfield 175) := by decide +kernel
theorem cd_185_59 : mt_cd 185 59 = some (.iconst 4) := by decide +kernel
theorem cd_185_60 : mt_cd 185 60 = some (.iload_n 1) := by decide +kernel
theorem cd_185_61 : mt_cd 185 61 = some (.imul) := by decide +kernel
theorem cd_185_62 : mt_cd 185 62 = some (.iload_n 2) := by decide +kernel
theorem cd_185_63 : mt_cd 185 63 = some (.iadd) := by decide +kernel
theorem cd_185_64 : mt_cd 185 64 = some (.laload) := by decide +kernel
theorem cd_185_65 : mt_cd 185 65 = some (.lstore 5) := by decide +kernel
theorem cd_185_67 : mt_cd 185 67 = some (.aload_n 0) := by decide +kernel
theorem cd_185_68 : mt_cd 185 68 = some (.getfield 175) := by decide +kernel
theorem cd_185_71 : mt_cd 185 71 = some (.iconst 4) := by decide +kernel
theorem cd_185_72 : mt_cd 185 72 = some (.iload_n 1) := by decide +kernel
theorem cd_185_73 : mt_cd 185 73 = some (.imul) := by decide +kernel
theorem cd_185_74 : mt_cd 185 74 = some (.iload_n 2) := by decide +kernel
theorem cd_185_75 : mt_cd 185 75 = some (.iadd) := by decide +kernel
theorem cd_185_76 : mt_cd 185 76 = some (.lload_n 3) := by decide +kernel
theorem cd_185_77 : mt_cd 185 77 = some (.lastore) := by decide +kernel
theorem cd_185_78 : mt_cd 185 78 = some (.lload 5) := by decide +kernel
theorem cd_185_80 : mt_cd 185 80 = some (.lreturn) := by decide +kernel
theorem b_185_0 {d : Nat} {Q : (Option Value ⊕ Nat) → mi_H → Prop} (n sl : Nat) (f : Nat → mi_C) {l1 : Nat} {l2 : Int32} {l3 : Int32} {l4 : Int64} {o5 : Option Value} {o6 : Option Value} {fs7 : List Value} (h8 : f l1 = .inr (12, fs7)) (h9 : l1 < n) (h10 : 0 < fs7.length) (h11 : mi_W d 141 0 (mi_en 6 [.long ((l2 : Int32).toInt64), .long 0, .long 7]) [] (n, sl, (va_up f l1 (.inr (12, fs7.set 0 (.int 0))))) (mi_Kc d 185 12 [some (.ref l1), some (.int l2), some (.int l3), some (.long l4), none, o5, o6] [.ref l1] Q)) : mi_W (d + 1) 185 0 [some (.ref l1), some (.int l2), some (.int l3), some (.long l4), none, o5, o6] [] (n, sl, f) Q := by
  refine w_aload_n cd_185_0 rfl ?_
  refine w_iconst (v := 0) cd_185_1 (by decide) ?_
  refine w_putfield (w := .int 0) cd_185_2 (show mt_f 12 248 = some (12, 0) by decide +kernel) h8 h9 ⟨h10, rfl, Or.inl (by decide)⟩ ?_
  refine w_aload_n cd_185_5 rfl ?_
  refine w_iload_n cd_185_6 rfl ?_
  refine w_i2l cd_185_7 ?_
  refine w_lconst (lv := 0) cd_185_8 (by decide) ?_
  refine w_ldc2_w (lv := 7) cd_185_9 (by decide +kernel) ?_
  exact w_invokestatic cd_185_12 (show mt_m 12 268 = some (141, 4) by decide +kernel) (by decide) (rest := [.ref l1]) rfl (as := [.long ((l2 : Int32).toInt64), .long 0, .long 7]) rfl ⟨Nat.le_of_ble_eq_true rfl, Nat.le_of_ble_eq_true rfl, Nat.le_of_ble_eq_true rfl⟩ h11
theorem b_185_15 {d : Nat} {Q : (Option Value ⊕ Nat) → mi_H → Prop} (n sl : Nat) (f : Nat → mi_C) {l1 : Nat} {l2 : Int32} {l3 : Int32} {l4 : Int64} {o5 : Option Value} {o6 : Option Value} {s7 : Int32} {s8 : Nat} (h9 : s7 = (0 : Int32) → mi_W d 185 41 [some (.ref l1), some (.int l2), some (.int l3), some (.long l4), none, o5, o6] [.ref s8] (n, sl, f) Q) (h10 : ¬ (s7 = (0 : Int32)) → mi_W d 185 18 [some (.ref l1), some (.int l2), some (.int l3), some (.long l4), none, o5, o6] [.ref s8] (n, sl, f) Q) : mi_W d 185 15 [some (.ref l1), some (.int l2), some (.int l3), some (.long l4), none, o5, o6] [.int s7, .ref s8] (n, sl, f) Q := by
  exact w_ifeq cd_185_15 (by decide) h9 h10
theorem b_185_18 {d : Nat} {Q : (Option Value ⊕ Nat) → mi_H → Prop} (n sl : Nat) (f : Nat → mi_C) {l1 : Nat} {l2 : Int32} {l3 : Int32} {l4 : Int64} {o5 : Option Value} {o6 : Option Value} {s7 : Nat} (h8 : mi_W d 141 0 (mi_en 6 [.long ((l3 : Int32).toInt64), .long 0, .long 3]) [] (n, sl, f) (mi_Kc d 185 24 [some (.ref l1), some (.int l2), some (.int l3), some (.long l4), none, o5, o6] [.ref s7] Q)) : mi_W (d + 1) 185 18 [some (.ref l1), some (.int l2), some (.int l3), some (.long l4), none, o5, o6] [.ref s7] (n, sl, f) Q := by
  refine w_iload_n cd_185_18 rfl ?_
  refine w_i2l cd_185_19 ?_
  refine w_lconst (lv := 0) cd_185_20 (by decide) ?_
  refine w_ldc2_w (lv := 3) cd_185_21 (by decide +kernel) ?_
  exact w_invokestatic cd_185_24 (show mt_m 12 268 = some (141, 4) by decide +kernel) (by decide) (rest := [.ref s7]) rfl (as := [.long ((l3 : Int32).toInt64), .long 0, .long 3]) rfl ⟨Nat.le_of_ble_eq_true rfl, Nat.le_of_ble_eq_true rfl, Nat.le_of_ble_eq_true rfl⟩ h8
theorem b_185_27 {d : Nat} {Q : (Option Value ⊕ Nat) → mi_H → Prop} (n sl : Nat) (f : Nat → mi_C) {l1 : Nat} {l2 : Int32} {l3 : Int32} {l4 : Int64} {o5 : Option Value} {o6 : Option Value} {s7 : Int32} {s8 : Nat} (h9 : s7 = (0 : Int32) → mi_W d 185 41 [some (.ref l1), some (.int l2), some (.int l3), some (.long l4), none, o5, o6] [.ref s8] (n, sl, f) Q) (h10 : ¬ (s7 = (0 : Int32)) → mi_W d 185 30 [some (.ref l1), some (.int l2), some (.int l3), some (.long l4), none, o5, o6] [.ref s8] (n, sl, f) Q) : mi_W d 185 27 [some (.ref l1), some (.int l2), some (.int l3), some (.long l4), none, o5, o6] [.int s7, .ref s8] (n, sl, f) Q := by
  exact w_ifeq cd_185_27 (by decide) h9 h10
theorem b_185_30 {d : Nat} {Q : (Option Value ⊕ Nat) → mi_H → Prop} (n sl : Nat) (f : Nat → mi_C) {l1 : Nat} {l2 : Int32} {l3 : Int32} {l4 : Int64} {o5 : Option Value} {o6 : Option Value} {s7 : Nat} (h8 : mi_W d 141 0 (mi_en 6 [.long l4, .long 0, .long 2305843009213693952]) [] (n, sl, f) (mi_Kc d 185 35 [some (.ref l1), some (.int l2), some (.int l3), some (.long l4), none, o5, o6] [.ref s7] Q)) : mi_W (d + 1) 185 30 [some (.ref l1), some (.int l2), some (.int l3), some (.long l4), none, o5, o6] [.ref s7] (n, sl, f) Q := by
  refine w_lload_n cd_185_30 rfl ?_
  refine w_lconst (lv := 0) cd_185_31 (by decide) ?_
  refine w_ldc2_w (lv := 2305843009213693952) cd_185_32 (by decide +kernel) ?_
  exact w_invokestatic cd_185_35 (show mt_m 12 268 = some (141, 4) by decide +kernel) (by decide) (rest := [.ref s7]) rfl (as := [.long l4, .long 0, .long 2305843009213693952]) rfl ⟨Nat.le_of_ble_eq_true rfl, Nat.le_of_ble_eq_true rfl, Nat.le_of_ble_eq_true rfl⟩ h8
theorem b_185_38 {d : Nat} {Q : (Option Value ⊕ Nat) → mi_H → Prop} (n sl : Nat) (f : Nat → mi_C) {l1 : Nat} {l2 : Int32} {l3 : Int32} {l4 : Int64} {o5 : Option Value} {o6 : Option Value} {s7 : Int32} {s8 : Nat} (h9 : ¬ s7 = (0 : Int32) → mi_W d 185 45 [some (.ref l1), some (.int l2), some (.int l3), some (.long l4), none, o5, o6] [.ref s8] (n, sl, f) Q) (h10 : ¬ (¬ s7 = (0 : Int32)) → mi_W d 185 41 [some (.ref l1), some (.int l2), some (.int l3), some (.long l4), none, o5, o6] [.ref s8] (n, sl, f) Q) : mi_W d 185 38 [some (.ref l1), some (.int l2), some (.int l3), some (.long l4), none, o5, o6] [.int s7, .ref s8] (n, sl, f) Q := by
  exact w_ifne cd_185_38 (by decide) h9 h10
theorem b_185_41 {d : Nat} {Q : (Option Value ⊕ Nat) → mi_H → Prop} (n sl : Nat) (f : Nat → mi_C) {l1 : Nat} {l2 : Int32} {l3 : Int32} {l4 : Int64} {o5 : Option Value} {o6 : Option Value} {s7 : Nat} (h8 : mi_W d 185 46 [some (.ref l1), some (.int l2), some (.int l3), some (.long l4), none, o5, o6] [.int 1, .ref s7] (n, sl, f) Q) : mi_W d 185 41 [some (.ref l1), some (.int l2), some (.int l3), some (.long l4), none, o5, o6] [.ref s7] (n, sl, f) Q := by
  refine w_iconst (v := 1) cd_185_41 (by decide) ?_
  exact w_goto cd_185_42 (by decide) h8
theorem b_185_45 {d : Nat} {Q : (Option Value ⊕ Nat) → mi_H → Prop} (n sl : Nat) (f : Nat → mi_C) {l1 : Nat} {l2 : Int32} {l3 : Int32} {l4 : Int64} {o5 : Option Value} {o6 : Option Value} {s7 : Nat} (h8 : mi_W d 185 46 [some (.ref l1), some (.int l2), some (.int l3), some (.long l4), none, o5, o6] [.int 0, .ref s7] (n, sl, f) Q) : mi_W d 185 45 [some (.ref l1), some (.int l2), some (.int l3), some (.long l4), none, o5, o6] [.ref s7] (n, sl, f) Q := by
  refine w_iconst (v := 0) cd_185_45 (by decide) ?_
  exact h8
theorem b_185_46 {d : Nat} {Q : (Option Value ⊕ Nat) → mi_H → Prop} (n sl : Nat) (f : Nat → mi_C) {l1 : Nat} {l2 : Int32} {l3 : Int32} {l4 : Int64} {o5 : Option Value} {o6 : Option Value} {s7 : Int32} {s8 : Nat} {fs9 : List Value} (h10 : f s8 = .inr (12, fs9)) (h11 : s8 < n) (h12 : mi_W d 139 0 (mi_en 3 [.ref s8, .int s7, .int 1]) [] (n, sl, f) (mi_Kc d 185 47 [some (.ref l1), some (.int l2), some (.int l3), some (.long l4), none, o5, o6] [] Q)) : mi_W (d + 1) 185 46 [some (.ref l1), some (.int l2), some (.int l3), some (.long l4), none, o5, o6] [.int s7, .ref s8] (n, sl, f) Q := by
  refine w_iconst (v := 1) cd_185_46 (by decide) ?_
  exact w_invokevirtual cd_185_47 (show mt_m 12 254 = some (139, 0) by decide +kernel) (rest := []) rfl (as := [.ref s8, .int s7, .int 1]) rfl h10 (Or.inl h11) ⟨Nat.le_of_ble_eq_true rfl, Nat.le_of_ble_eq_true rfl, Nat.le_of_ble_eq_true rfl⟩ h12
theorem b_185_50 {d : Nat} {Q : (Option Value ⊕ Nat) → mi_H → Prop} (n sl : Nat) (f : Nat → mi_C) {l1 : Nat} {l2 : Int32} {l3 : Int32} {l4 : Int64} {o5 : Option Value} {o6 : Option Value} {s7 : Int32} (h8 : s7 = (0 : Int32) → mi_W d 185 55 [some (.ref l1), some (.int l2), some (.int l3), some (.long l4), none, o5, o6] [] (n, sl, f) Q) (h9 : ¬ (s7 = (0 : Int32)) → mi_W d 185 53 [some (.ref l1), some (.int l2), some (.int l3), some (.long l4), none, o5, o6] [] (n, sl, f) Q) : mi_W d 185 50 [some (.ref l1), some (.int l2), some (.int l3), some (.long l4), none, o5, o6] [.int s7] (n, sl, f) Q := by
  exact w_ifeq cd_185_50 (by decide) h8 h9
theorem b_185_53 {d : Nat} {Q : (Option Value ⊕ Nat) → mi_H → Prop} (n sl : Nat) (f : Nat → mi_C) {l1 : Nat} {l2 : Int32} {l3 : Int32} {l4 : Int64} {o5 : Option Value} {o6 : Option Value} (h7 : Q (.inl (some (.long 0))) (n, sl, f)) : mi_W d 185 53 [some (.ref l1), some (.int l2), some (.int l3), some (.long l4), none, o5, o6] [] (n, sl, f) Q := by
  refine w_lconst (lv := 0) cd_185_53 (by decide) ?_
  exact w_lreturn cd_185_54 (by decide +kernel) h7
theorem b_185_55 {d : Nat} {Q : (Option Value ⊕ Nat) → mi_H → Prop} (n sl : Nat) (f : Nat → mi_C) {l1 : Nat} {l2 : Int32} {l3 : Int32} {l4 : Int64} {o5 : Option Value} {o6 : Option Value} {fs7 : List Value} {x10 : Nat} (m12 i12 : Nat) (g12 : Nat → Int64) {fs16 : List Value} {x19 : Nat} (m21 i21 : Nat) (g21 : Nat → Int64) (h8 : f l1 = .inr (12, fs7)) (h9 : l1 < n) (h11 : fs7[56]? = some (.ref x10)) (h13 : f x10 = .inl (3, m12, .inr (.inl g12))) (h14 : x10 < n) (h15 : mi_ix ((4 * l2) + l3) m12 i12) (h17 : f l1 = .inr (12, fs16)) (h18 : l1 < n) (h20 : fs16[56]? = some (.ref x19)) (h22 : f x19 = .inl (3, m21, .inr (.inl g21))) (h23 : x19 < n) (h24 : mi_ix ((4 * l2) + l3) m21 i21) (h25 : Q (.inl (some (.long (g12 i12)))) (n, sl, (va_up f x19 (.inl (3, m21, .inr (.inl (vp_updL g21 i21 l4))))))) : mi_W d 185 55 [some (.ref l1), some (.int l2), some (.int l3), some (.long l4), none, o5, o6] [] (n, sl, f) Q := by
  refine w_aload_n cd_185_55 rfl ?_
  refine w_getfield cd_185_56 (show mt_f 12 175 = some (12, 56) by decide +kernel) h8 h9 h11 ?_
  refine w_iconst (v := 4) cd_185_59 (by decide) ?_
  refine w_iload_n cd_185_60 rfl ?_
  refine w_imul cd_185_61 ?_
  refine w_iload_n cd_185_62 rfl ?_
  refine w_iadd cd_185_63 ?_
  refine w_laload cd_185_64 h13 h14 h15 ?_
  refine w_lstore (ls' := [some (.ref l1), some (.int l2), some (.int l3), some (.long l4), none, some (.long (g12 i12)), none]) cd_185_65 (Nat.le_of_ble_eq_true rfl) rfl ?_
  refine w_aload_n cd_185_67 rfl ?_
  refine w_getfield cd_185_68 (show mt_f 12 175 = some (12, 56) by decide +kernel) h17 h18 h20 ?_
  refine w_iconst (v := 4) cd_185_71 (by decide) ?_
  refine w_iload_n cd_185_72 rfl ?_
  refine w_imul cd_185_73 ?_
  refine w_iload_n cd_185_74 rfl ?_
  refine w_iadd cd_185_75 ?_
  refine w_lload_n cd_185_76 rfl ?_
  refine w_lastore cd_185_77 h22 h23 h24 ?_
  refine w_lload cd_185_78 rfl ?_
  exact w_lreturn cd_185_80 (by decide +kernel) h25
/-! MarloweHostModel.deposit(IIIJ)I -/
theorem cd_186_0 : mt_cd 186 0 = some (.aload_n 0) := by decide +kernel
theorem cd_186_1 : mt_cd 186 1 = some (.iconst 0) := by decide +kernel
theorem cd_186_2 : mt_cd 186 2 = some (.putfield 248) := by decide +kernel
theorem cd_186_5 : mt_cd 186 5 = some (.aload_n 0) := by decide +kernel
theorem cd_186_6 : mt_cd 186 6 = some (.iload_n 1) := by decide +kernel
theorem cd_186_7 : mt_cd 186 7 = some (.i2l) := by decide +kernel
theorem cd_186_8 : mt_cd 186 8 = some (.lconst 0) := by decide +kernel
theorem cd_186_9 : mt_cd 186 9 = some (.ldc2_w 542) := by decide +kernel
theorem cd_186_12 : mt_cd 186 12 = some (.invokestatic 268) := by decide +kernel
theorem cd_186_15 : mt_cd 186 15 = some (.ifCond .eq 27) := by decide +kernel
theorem cd_186_18 : mt_cd 186 18 = some (.iload_n 2) := by decide +kernel
theorem cd_186_19 : mt_cd 186 19 = some (.i2l) := by decide +kernel
theorem cd_186_20 : mt_cd 186 20 = some (.lconst 0) := by decide +kernel
theorem cd_186_21 : mt_cd 186 21 = some (.ldc2_w 542) := by decide +kernel
theorem cd_186_24 : mt_cd 186 24 = some (.invokestatic 268) := by decide +kernel
theorem cd_186_27 : mt_cd 186 27 = some (.ifCond .eq 15) := by decide +kernel
theorem cd_186_30 : mt_cd 186 30 = some (.iload_n 3) := by decide +kernel
theorem cd_186_31 : mt_cd 186 31 = some (.i2l) := by decide +kernel
theorem cd_186_32 : mt_cd 186 32 = some (.lconst 0) := by decide +kernel
theorem cd_186_33 : mt_cd 186 33 = some (.ldc2_w 544) := by decide +kernel
theorem cd_186_36 : mt_cd 186 36 = some (.invokestatic 268) := by decide +kernel
theorem cd_186_39 : mt_cd 186 39 = some (.ifCond .ne 7) := by decide +kernel
theorem cd_186_42 : mt_cd 186 42 = some (.iconst 1) := by decide +kernel
theorem cd_186_43 : mt_cd 186 43 = some (.goto 4) := by decide +kernel
theorem cd_186_46 : mt_cd 186 46 = some (.iconst 0) := by decide +kernel
theorem cd_186_47 : mt_cd 186 47 = some (.iconst 1) := by decide +kernel
theorem cd_186_48 : mt_cd 186 48 = some (.invokevirtual 254) := by decide +kernel
theorem cd_186_51 : mt_cd 186 51 = some (.ifCond .ne 25) := by decide +kernel
theorem cd_186_54 : mt_cd 186 54 = some (.aload_n 0) := by decide +kernel
theorem cd_186_55 : mt_cd 186 55 = some (.aload_n 0) := by decide +kernel
theorem cd_186_56 : mt_cd 186 56 = some (.getfield 258) := by decide +kernel
theorem cd_186_59 : mt_cd 186 59 = some (.bipush 16) := by decide +kernel
theorem cd_186_61 : mt_cd 186 61 = some (.if_icmp .ne 7) := by decide +kernel
theorem cd_186_64 : mt_cd 186 64 = some (.iconst 1) := by decide +kernel
theorem cd_186_65 : mt_cd 186 65 = some (.goto 4) := by decide +kernel
theorem cd_186_68 : mt_cd 186 68 = some (.iconst 0) := by decide +kernel
theorem cd_186_69 : mt_cd 186 69 = some (.iconst 2) := by decide +kernel
theorem cd_186_70 : mt_cd 186 70 = some (.invokevirtual 254) := by decide +kernel
theorem cd_186_73 : mt_cd 186 73 = some (.ifCond .eq 5) := by decide +kernel
theorem cd_186_76 : mt_cd 186 76 = some (.iconst 0) := by decide +kernel
theorem cd_186_77 : mt_cd 186 77 = some (.ireturn) := by decide +kernel
theorem cd_186_78 : mt_cd 186 78 = some (.aload_n 0) := by decide +kernel
theorem cd_186_79 : mt_cd 186 79 = some (.bipush 7) := by decide +kernel
theorem cd_186_81 : mt_cd 186 81 = some (.iload_n 1) := by decide +kernel
theorem cd_186_82 : mt_cd 186 82 = some (.iload_n 2) := by decide +kernel
theorem cd_186_83 : mt_cd 186 83 = some (.iload_n 3) := by decide +kernel
theorem cd_186_84 : mt_cd 186 84 = some (.lload 4) := by decide +kernel
theorem cd_186_86 : mt_cd 186 86 = some (.invokevirtual 548) := by decide +kernel
theorem cd_186_89 : mt_cd 186 89 = some (.ireturn) := by decide +kernel
theorem b_186_0 {d : Nat} {Q : (Option Value ⊕ Nat) → mi_H → Prop} (n sl : Nat) (f : Nat → mi_C) {l1 : Nat} {l2 : Int32} {l3 : Int32} {l4 : Int32} {l5 : Int64} {fs6 : List Value} (h7 : f l1 = .inr (12, fs6)) (h8 : l1 < n) (h9 : 0 < fs6.length) (h10 : mi_W d 141 0 (mi_en 6 [.long ((l2 : Int32).toInt64), .long 0, .long 7]) [] (n, sl, (va_up f l1 (.inr (12, fs6.set 0 (.int 0))))) (mi_Kc d 186 12 [some (.ref l1), some (.int l2), some (.int l3), some (.int l4), some (.long l5), none] [.ref l1] Q)) : mi_W (d + 1) 186 0 [some (.ref l1), some (.int l2), some (.int l3), some (.int l4), some (.long l5), none] [] (n, sl, f) Q := by
  refine w_aload_n cd_186_0 rfl ?_
  refine w_iconst (v := 0) cd_186_1 (by decide) ?_
  refine w_putfield (w := .int 0) cd_186_2 (show mt_f 12 248 = some (12, 0) by decide +kernel) h7 h8 ⟨h9, rfl, Or.inl (by decide)⟩ ?_
  refine w_aload_n cd_186_5 rfl ?_
  refine w_iload_n cd_186_6 rfl ?_
  refine w_i2l cd_186_7 ?_
  refine w_lconst (lv := 0) cd_186_8 (by decide) ?_
  refine w_ldc2_w (lv := 7) cd_186_9 (by decide +kernel) ?_
  exact w_invokestatic cd_186_12 (show mt_m 12 268 = some (141, 4) by decide +kernel) (by decide) (rest := [.ref l1]) rfl (as := [.long ((l2 : Int32).toInt64), .long 0, .long 7]) rfl ⟨Nat.le_of_ble_eq_true rfl, Nat.le_of_ble_eq_true rfl, Nat.le_of_ble_eq_true rfl⟩ h10
theorem b_186_15 {d : Nat} {Q : (Option Value ⊕ Nat) → mi_H → Prop} (n sl : Nat) (f : Nat → mi_C) {l1 : Nat} {l2 : Int32} {l3 : Int32} {l4 : Int32} {l5 : Int64} {s6 : Int32} {s7 : Nat} (h8 : s6 = (0 : Int32) → mi_W d 186 42 [some (.ref l1), some (.int l2), some (.int l3), some (.int l4), some (.long l5), none] [.ref s7] (n, sl, f) Q) (h9 : ¬ (s6 = (0 : Int32)) → mi_W d 186 18 [some (.ref l1), some (.int l2), some (.int l3), some (.int l4), some (.long l5), none] [.ref s7] (n, sl, f) Q) : mi_W d 186 15 [some (.ref l1), some (.int l2), some (.int l3), some (.int l4), some (.long l5), none] [.int s6, .ref s7] (n, sl, f) Q := by
  exact w_ifeq cd_186_15 (by decide) h8 h9
theorem b_186_18 {d : Nat} {Q : (Option Value ⊕ Nat) → mi_H → Prop} (n sl : Nat) (f : Nat → mi_C) {l1 : Nat} {l2 : Int32} {l3 : Int32} {l4 : Int32} {l5 : Int64} {s6 : Nat} (h7 : mi_W d 141 0 (mi_en 6 [.long ((l3 : Int32).toInt64), .long 0, .long 7]) [] (n, sl, f) (mi_Kc d 186 24 [some (.ref l1), some (.int l2), some (.int l3), some (.int l4), some (.long l5), none] [.ref s6] Q)) : mi_W (d + 1) 186 18 [some (.ref l1), some (.int l2), some (.int l3), some (.int l4), some (.long l5), none] [.ref s6] (n, sl, f) Q := by
  refine w_iload_n cd_186_18 rfl ?_
  refine w_i2l cd_186_19 ?_
  refine w_lconst (lv := 0) cd_186_20 (by decide) ?_
  refine w_ldc2_w (lv := 7) cd_186_21 (by decide +kernel) ?_
  exact w_invokestatic cd_186_24 (show mt_m 12 268 = some (141, 4) by decide +kernel) (by decide) (rest := [.ref s6]) rfl (as := [.long ((l3 : Int32).toInt64), .long 0, .long 7]) rfl ⟨Nat.le_of_ble_eq_true rfl, Nat.le_of_ble_eq_true rfl, Nat.le_of_ble_eq_true rfl⟩ h7
theorem b_186_27 {d : Nat} {Q : (Option Value ⊕ Nat) → mi_H → Prop} (n sl : Nat) (f : Nat → mi_C) {l1 : Nat} {l2 : Int32} {l3 : Int32} {l4 : Int32} {l5 : Int64} {s6 : Int32} {s7 : Nat} (h8 : s6 = (0 : Int32) → mi_W d 186 42 [some (.ref l1), some (.int l2), some (.int l3), some (.int l4), some (.long l5), none] [.ref s7] (n, sl, f) Q) (h9 : ¬ (s6 = (0 : Int32)) → mi_W d 186 30 [some (.ref l1), some (.int l2), some (.int l3), some (.int l4), some (.long l5), none] [.ref s7] (n, sl, f) Q) : mi_W d 186 27 [some (.ref l1), some (.int l2), some (.int l3), some (.int l4), some (.long l5), none] [.int s6, .ref s7] (n, sl, f) Q := by
  exact w_ifeq cd_186_27 (by decide) h8 h9
theorem b_186_30 {d : Nat} {Q : (Option Value ⊕ Nat) → mi_H → Prop} (n sl : Nat) (f : Nat → mi_C) {l1 : Nat} {l2 : Int32} {l3 : Int32} {l4 : Int32} {l5 : Int64} {s6 : Nat} (h7 : mi_W d 141 0 (mi_en 6 [.long ((l4 : Int32).toInt64), .long 0, .long 3]) [] (n, sl, f) (mi_Kc d 186 36 [some (.ref l1), some (.int l2), some (.int l3), some (.int l4), some (.long l5), none] [.ref s6] Q)) : mi_W (d + 1) 186 30 [some (.ref l1), some (.int l2), some (.int l3), some (.int l4), some (.long l5), none] [.ref s6] (n, sl, f) Q := by
  refine w_iload_n cd_186_30 rfl ?_
  refine w_i2l cd_186_31 ?_
  refine w_lconst (lv := 0) cd_186_32 (by decide) ?_
  refine w_ldc2_w (lv := 3) cd_186_33 (by decide +kernel) ?_
  exact w_invokestatic cd_186_36 (show mt_m 12 268 = some (141, 4) by decide +kernel) (by decide) (rest := [.ref s6]) rfl (as := [.long ((l4 : Int32).toInt64), .long 0, .long 3]) rfl ⟨Nat.le_of_ble_eq_true rfl, Nat.le_of_ble_eq_true rfl, Nat.le_of_ble_eq_true rfl⟩ h7
theorem b_186_39 {d : Nat} {Q : (Option Value ⊕ Nat) → mi_H → Prop} (n sl : Nat) (f : Nat → mi_C) {l1 : Nat} {l2 : Int32} {l3 : Int32} {l4 : Int32} {l5 : Int64} {s6 : Int32} {s7 : Nat} (h8 : ¬ s6 = (0 : Int32) → mi_W d 186 46 [some (.ref l1), some (.int l2), some (.int l3), some (.int l4), some (.long l5), none] [.ref s7] (n, sl, f) Q) (h9 : ¬ (¬ s6 = (0 : Int32)) → mi_W d 186 42 [some (.ref l1), some (.int l2), some (.int l3), some (.int l4), some (.long l5), none] [.ref s7] (n, sl, f) Q) : mi_W d 186 39 [some (.ref l1), some (.int l2), some (.int l3), some (.int l4), some (.long l5), none] [.int s6, .ref s7] (n, sl, f) Q := by
  exact w_ifne cd_186_39 (by decide) h8 h9
theorem b_186_42 {d : Nat} {Q : (Option Value ⊕ Nat) → mi_H → Prop} (n sl : Nat) (f : Nat → mi_C) {l1 : Nat} {l2 : Int32} {l3 : Int32} {l4 : Int32} {l5 : Int64} {s6 : Nat} (h7 : mi_W d 186 47 [some (.ref l1), some (.int l2), some (.int l3), some (.int l4), some (.long l5), none] [.int 1, .ref s6] (n, sl, f) Q) : mi_W d 186 42 [some (.ref l1), some (.int l2), some (.int l3), some (.int l4), some (.long l5), none] [.ref s6] (n, sl, f) Q := by
  refine w_iconst (v := 1) cd_186_42 (by decide) ?_
  exact w_goto cd_186_43 (by decide) h7
theorem b_186_46 {d : Nat} {Q : (Option Value ⊕ Nat) → mi_H → Prop} (n sl : Nat) (f : Nat → mi_C) {l1 : Nat} {l2 : Int32} {l3 : Int32} {l4 : Int32} {l5 : Int64} {s6 : Nat} (h7 : mi_W d 186 47 [some (.ref l1), some (.int l2), some (.int l3), some (.int l4), some (.long l5), none] [.int 0, .ref s6] (n, sl, f) Q) : mi_W d 186 46 [some (.ref l1), some (.int l2), some (.int l3), some (.int l4), some (.long l5), none] [.ref s6] (n, sl, f) Q := by
  refine w_iconst (v := 0) cd_186_46 (by decide) ?_
  exact h7
theorem b_186_47 {d : Nat} {Q : (Option Value ⊕ Nat) → mi_H → Prop} (n sl : Nat) (f : Nat → mi_C) {l1 : Nat} {l2 : Int32} {l3 : Int32} {l4 : Int32} {l5 : Int64} {s6 : Int32} {s7 : Nat} {fs8 : List Value} (h9 : f s7 = .inr (12, fs8)) (h10 : s7 < n) (h11 : mi_W d 139 0 (mi_en 3 [.ref s7, .int s6, .int 1]) [] (n, sl, f) (mi_Kc d 186 48 [some (.ref l1), some (.int l2), some (.int l3), some (.int l4), some (.long l5), none] [] Q)) : mi_W (d + 1) 186 47 [some (.ref l1), some (.int l2), some (.int l3), some (.int l4), some (.long l5), none] [.int s6, .ref s7] (n, sl, f) Q := by
  refine w_iconst (v := 1) cd_186_47 (by decide) ?_
  exact w_invokevirtual cd_186_48 (show mt_m 12 254 = some (139, 0) by decide +kernel) (rest := []) rfl (as := [.ref s7, .int s6, .int 1]) rfl h9 (Or.inl h10) ⟨Nat.le_of_ble_eq_true rfl, Nat.le_of_ble_eq_true rfl, Nat.le_of_ble_eq_true rfl⟩ h11
theorem b_186_51 {d : Nat} {Q : (Option Value ⊕ Nat) → mi_H → Prop} (n sl : Nat) (f : Nat → mi_C) {l1 : Nat} {l2 : Int32} {l3 : Int32} {l4 : Int32} {l5 : Int64} {s6 : Int32} (h7 : ¬ s6 = (0 : Int32) → mi_W d 186 76 [some (.ref l1), some (.int l2), some (.int l3), some (.int l4), some (.long l5), none] [] (n, sl, f) Q) (h8 : ¬ (¬ s6 = (0 : Int32)) → mi_W d 186 54 [some (.ref l1), some (.int l2), some (.int l3), some (.int l4), some (.long l5), none] [] (n, sl, f) Q) : mi_W d 186 51 [some (.ref l1), some (.int l2), some (.int l3), some (.int l4), some (.long l5), none] [.int s6] (n, sl, f) Q := by
  exact w_ifne cd_186_51 (by decide) h7 h8
theorem b_186_54 {d : Nat} {Q : (Option Value ⊕ Nat) → mi_H → Prop} (n sl : Nat) (f : Nat → mi_C) {l1 : Nat} {l2 : Int32} {l3 : Int32} {l4 : Int32} {l5 : Int64} {fs6 : List Value} {x9 : Int32} (h7 : f l1 = .inr (12, fs6)) (h8 : l1 < n) (h10 : fs6[59]? = some (.int x9)) (h11 : ¬ x9 = 16 → mi_W d 186 68 [some (.ref l1), some (.int l2), some (.int l3), some (.int l4), some (.long l5), none] [.ref l1] (n, sl, f) Q) (h12 : ¬ (¬ x9 = 16) → mi_W d 186 64 [some (.ref l1), some (.int l2), some (.int l3), some (.int l4), some (.long l5), none] [.ref l1] (n, sl, f) Q) : mi_W d 186 54 [some (.ref l1), some (.int l2), some (.int l3), some (.int l4), some (.long l5), none] [] (n, sl, f) Q := by
  refine w_aload_n cd_186_54 rfl ?_
  refine w_aload_n cd_186_55 rfl ?_
  refine w_getfield cd_186_56 (show mt_f 12 258 = some (12, 59) by decide +kernel) h7 h8 h10 ?_
  refine w_bipush (v := 16) cd_186_59 (by decide) ?_
  exact w_if_icmpne cd_186_61 (by decide) h11 h12
theorem b_186_64 {d : Nat} {Q : (Option Value ⊕ Nat) → mi_H → Prop} (n sl : Nat) (f : Nat → mi_C) {l1 : Nat} {l2 : Int32} {l3 : Int32} {l4 : Int32} {l5 : Int64} {s6 : Nat} (h7 : mi_W d 186 69 [some (.ref l1), some (.int l2), some (.int l3), some (.int l4), some (.long l5), none] [.int 1, .ref s6] (n, sl, f) Q) : mi_W d 186 64 [some (.ref l1), some (.int l2), some (.int l3), some (.int l4), some (.long l5), none] [.ref s6] (n, sl, f) Q := by
  refine w_iconst (v := 1) cd_186_64 (by decide) ?_
  exact w_goto cd_186_65 (by decide) h7
theorem b_186_68 {d : Nat} {Q : (Option Value ⊕ Nat) → mi_H → Prop} (n sl : Nat) (f : Nat → mi_C) {l1 : Nat} {l2 : Int32} {l3 : Int32} {l4 : Int32} {l5 : Int64} {s6 : Nat} (h7 : mi_W d 186 69 [some (.ref l1), some (.int l2), some (.int l3), some (.int l4), some (.long l5), none] [.int 0, .ref s6] (n, sl, f) Q) : mi_W d 186 68 [some (.ref l1), some (.int l2), some (.int l3), some (.int l4), some (.long l5), none] [.ref s6] (n, sl, f) Q := by
  refine w_iconst (v := 0) cd_186_68 (by decide) ?_
  exact h7
theorem b_186_69 {d : Nat} {Q : (Option Value ⊕ Nat) → mi_H → Prop} (n sl : Nat) (f : Nat → mi_C) {l1 : Nat} {l2 : Int32} {l3 : Int32} {l4 : Int32} {l5 : Int64} {s6 : Int32} {s7 : Nat} {fs8 : List Value} (h9 : f s7 = .inr (12, fs8)) (h10 : s7 < n) (h11 : mi_W d 139 0 (mi_en 3 [.ref s7, .int s6, .int 2]) [] (n, sl, f) (mi_Kc d 186 70 [some (.ref l1), some (.int l2), some (.int l3), some (.int l4), some (.long l5), none] [] Q)) : mi_W (d + 1) 186 69 [some (.ref l1), some (.int l2), some (.int l3), some (.int l4), some (.long l5), none] [.int s6, .ref s7] (n, sl, f) Q := by
  refine w_iconst (v := 2) cd_186_69 (by decide) ?_
  exact w_invokevirtual cd_186_70 (show mt_m 12 254 = some (139, 0) by decide +kernel) (rest := []) rfl (as := [.ref s7, .int s6, .int 2]) rfl h9 (Or.inl h10) ⟨Nat.le_of_ble_eq_true rfl, Nat.le_of_ble_eq_true rfl, Nat.le_of_ble_eq_true rfl⟩ h11
theorem b_186_73 {d : Nat} {Q : (Option Value ⊕ Nat) → mi_H → Prop} (n sl : Nat) (f : Nat → mi_C) {l1 : Nat} {l2 : Int32} {l3 : Int32} {l4 : Int32} {l5 : Int64} {s6 : Int32} (h7 : s6 = (0 : Int32) → mi_W d 186 78 [some (.ref l1), some (.int l2), some (.int l3), some (.int l4), some (.long l5), none] [] (n, sl, f) Q) (h8 : ¬ (s6 = (0 : Int32)) → mi_W d 186 76 [some (.ref l1), some (.int l2), some (.int l3), some (.int l4), some (.long l5), none] [] (n, sl, f) Q) : mi_W d 186 73 [some (.ref l1), some (.int l2), some (.int l3), some (.int l4), some (.long l5), none] [.int s6] (n, sl, f) Q := by
  exact w_ifeq cd_186_73 (by decide) h7 h8
theorem b_186_76 {d : Nat} {Q : (Option Value ⊕ Nat) → mi_H → Prop} (n sl : Nat) (f : Nat → mi_C) {l1 : Nat} {l2 : Int32} {l3 : Int32} {l4 : Int32} {l5 : Int64} (h6 : Q (.inl (some (.int 0))) (n, sl, f)) : mi_W d 186 76 [some (.ref l1), some (.int l2), some (.int l3), some (.int l4), some (.long l5), none] [] (n, sl, f) Q := by
  refine w_iconst (v := 0) cd_186_76 (by decide) ?_
  exact w_ireturn_i cd_186_77 (by decide +kernel) h6
theorem b_186_78 {d : Nat} {Q : (Option Value ⊕ Nat) → mi_H → Prop} (n sl : Nat) (f : Nat → mi_C) {l1 : Nat} {l2 : Int32} {l3 : Int32} {l4 : Int32} {l5 : Int64} {fs6 : List Value} (h7 : f l1 = .inr (12, fs6)) (h8 : l1 < n) (h9 : mi_W d 187 0 (mi_en 7 [.ref l1, .int 7, .int l2, .int l3, .int l4, .long l5]) [] (n, sl, f) (mi_Kc d 186 86 [some (.ref l1), some (.int l2), some (.int l3), some (.int l4), some (.long l5), none] [] Q)) : mi_W (d + 1) 186 78 [some (.ref l1), some (.int l2), some (.int l3), some (.int l4), some (.long l5), none] [] (n, sl, f) Q := by
  refine w_aload_n cd_186_78 rfl ?_
  refine w_bipush (v := 7) cd_186_79 (by decide) ?_
  refine w_iload_n cd_186_81 rfl ?_
  refine w_iload_n cd_186_82 rfl ?_
  refine w_iload_n cd_186_83 rfl ?_
  refine w_lload cd_186_84 rfl ?_
  exact w_invokevirtual cd_186_86 (show mt_m 12 548 = some (187, 0) by decide +kernel) (rest := []) rfl (as := [.ref l1, .int 7, .int l2, .int l3, .int l4, .long l5]) rfl h7 (Or.inl h8) ⟨Nat.le_of_ble_eq_true rfl, Nat.le_of_ble_eq_true rfl, Nat.le_of_ble_eq_true rfl⟩ h9
theorem b_186_89 {d : Nat} {Q : (Option Value ⊕ Nat) → mi_H → Prop} (n sl : Nat) (f : Nat → mi_C) {l1 : Nat} {l2 : Int32} {l3 : Int32} {l4 : Int32} {l5 : Int64} {s6 : Int32} (h7 : Q (.inl (some (.int s6))) (n, sl, f)) : mi_W d 186 89 [some (.ref l1), some (.int l2), some (.int l3), some (.int l4), some (.long l5), none] [.int s6] (n, sl, f) Q := by
  exact w_ireturn_i cd_186_89 (by decide +kernel) h7
/-! MarloweHostModel.input(IIIIJ)I -/
theorem cd_187_0 : mt_cd 187 0 = some (.aload_n 0) := by decide +kernel
theorem cd_187_1 : mt_cd 187 1 = some (.getfield 178) := by decide +kernel
theorem cd_187_4 : mt_cd 187 4 = some (.aload_n 0) := by decide +kernel
theorem cd_187_5 : mt_cd 187 5 = some (.getfield 258) := by decide +kernel
theorem cd_187_8 : mt_cd 187 8 = some (.iload_n 1) := by decide +kernel
theorem cd_187_9 : mt_cd 187 9 = some (.iastore) := by decide +kernel
theorem cd_187_10 : mt_cd 187 10 = some (.aload_n 0) := by decide +kernel
theorem cd_187_11 : mt_cd 187 11 = some (.getfield 181) := by decide +kernel
theorem cd_187_14 : mt_cd 187 14 = some (.aload_n 0) := by decide +kernel
theorem cd_187_15 : mt_cd 187 15 = some (.getfield 258) := by decide +kernel
theorem cd_187_18 : mt_cd 187 18 = some (.iload_n 2) := by decide +kernel
theorem cd_187_19 : mt_cd 187 19 = some (.iastore) := by decide +kernel
theorem cd_187_20 : mt_cd 187 20 = some (.aload_n 0) := by decide +kernel
theorem cd_187_21 : mt_cd 187 21 = some (.getfield 184) := by decide +kernel
theorem cd_187_24 : mt_cd 187 24 = some (.aload_n 0) := by decide +kernel
theorem cd_187_25 : mt_cd 187 25 = some (.getfield 258) := by decide +kernel
theorem cd_187_28 : mt_cd 187 28 = some (.iload_n 3) := by decide +kernel
theorem cd_187_29 : mt_cd 187 29 = some (.iastore) := by decide +kernel
theorem cd_187_30 : mt_cd 187 30 = some (.aload_n 0) := by decide +kernel
theorem cd_187_31 : mt_cd 187 31 = some (.getfield 187) := by decide +kernel
theorem cd_187_34 : mt_cd 187 34 = some (.aload_n 0) := by decide +kernel
theorem cd_187_35 : mt_cd 187 35 = some (.getfield 258) := by decide +kernel
theorem cd_187_38 : mt_cd 187 38 = some (.iload 4) := by decide +kernel
theorem cd_187_40 : mt_cd 187 40 = some (.iastore) := by decide +kernel
theorem cd_187_41 : mt_cd 187 41 = some (.aload_n 0) := by decide +kernel
theorem cd_187_42 : mt_cd 187 42 = some (.getfield 190) := by decide +kernel
theorem cd_187_45 : mt_cd 187 45 = some (.aload_n 0) := by decide +kernel
theorem cd_187_46 : mt_cd 187 46 = some (.getfield 258) := by decide +kernel
theorem cd_187_49 : mt_cd 187 49 = some (.lload 5) := by decide +kernel
theorem cd_187_51 : mt_cd 187 51 = some (.lastore) := by decide +kernel
theorem cd_187_52 : mt_cd 187 52 = some (.aload_n 0) := by decide +kernel
theorem cd_187_53 : mt_cd 187 53 = some (.dup) := by decide +kernel
theorem cd_187_54 : mt_cd 187 54 = some (.getfield 258) := by decide +kernel
theorem cd_187_57 : mt_cd 187 57 = some (.iconst 1) := by decide +kernel
theorem cd_187_58 : mt_cd 187 58 = some (.iadd) := by decide +kernel
theorem cd_187_59 : mt_cd 187 59 = some (.dup_x1) := by decide +kernel
theorem cd_187_60 : mt_cd 187 60 = some (.putfield 258) := by decide +kernel
theorem cd_187_63 : mt_cd 187 63 = some (.ireturn) := by decide +kernel
theorem b_187_0 {d : Nat} {Q : (Option Value ⊕ Nat) → mi_H → Prop} (n sl : Nat) (f : Nat → mi_C) {l1 : Nat} {l2 : Int32} {l3 : Int32} {l4 : Int32} {l5 : Int32} {l6 : Int64} {fs7 : List Value} {x10 : Nat} {fs12 : List Value} {x15 : Int32} (m17 i17 : Nat) (g17 : Nat → Int32) {fs21 : List Value} {x24 : Nat} {fs26 : List Value} {x29 : Int32} (m31 i31 : Nat) (g31 : Nat → Int32) {fs35 : List Value} {x38 : Nat} {fs40 : List Value} {x43 : Int32} (m45 i45 : Nat) (g45 : Nat → Int32) {fs49 : List Value} {x52 : Nat} {fs54 : List Value} {x57 : Int32} (m59 i59 : Nat) (g59 : Nat → Int32) {fs63 : List Value} {x66 : Nat} {fs68 : List Value} {x71 : Int32} (m73 i73 : Nat) (g73 : Nat → Int64) {fs77 : List Value} {x80 : Int32} {fs82 : List Value} (h8 : f l1 = .inr (12, fs7)) (h9 : l1 < n) (h11 : fs7[60]? = some (.ref x10)) (h13 : f l1 = .inr (12, fs12)) (h14 : l1 < n) (h16 : fs12[59]? = some (.int x15)) (h18 : f x10 = .inl (0, m17, .inl g17)) (h19 : x10 < n) (h20 : mi_ix x15 m17 i17) (h22 : (va_up f x10 (.inl (0, m17, .inl (upd g17 i17 l2)))) l1 = .inr (12, fs21)) (h23 : l1 < n) (h25 : fs21[61]? = some (.ref x24)) (h27 : (va_up f x10 (.inl (0, m17, .inl (upd g17 i17 l2)))) l1 = .inr (12, fs26)) (h28 : l1 < n) (h30 : fs26[59]? = some (.int x29)) (h32 : (va_up f x10 (.inl (0, m17, .inl (upd g17 i17 l2)))) x24 = .inl (0, m31, .inl g31)) (h33 : x24 < n) (h34 : mi_ix x29 m31 i31) (h36 : (va_up (va_up f x10 (.inl (0, m17, .inl (upd g17 i17 l2)))) x24 (.inl (0, m31, .inl (upd g31 i31 l3)))) l1 = .inr (12, fs35)) (h37 : l1 < n) (h39 : fs35[62]? = some (.ref x38)) (h41 : (va_up (va_up f x10 (.inl (0, m17, .inl (upd g17 i17 l2)))) x24 (.inl (0, m31, .inl (upd g31 i31 l3)))) l1 = .inr (12, fs40)) (h42 : l1 < n) (h44 : fs40[59]? = some (.int x43)) (h46 : (va_up (va_up f x10 (.inl (0, m17, .inl (upd g17 i17 l2)))) x24 (.inl (0, m31, .inl (upd g31 i31 l3)))) x38 = .inl (0, m45, .inl g45)) (h47 : x38 < n) (h48 : mi_ix x43 m45 i45) (h50 : (va_up (va_up (va_up f x10 (.inl (0, m17, .inl (upd g17 i17 l2)))) x24 (.inl (0, m31, .inl (upd g31 i31 l3)))) x38 (.inl (0, m45, .inl (upd g45 i45 l4)))) l1 = .inr (12, fs49)) (h51 : l1 < n) (h53 : fs49[63]? = some (.ref x52)) (h55 : (va_up (va_up (va_up f x10 (.inl (0, m17, .inl (upd g17 i17 l2)))) x24 (.inl (0, m31, .inl (upd g31 i31 l3)))) x38 (.inl (0, m45, .inl (upd g45 i45 l4)))) l1 = .inr (12, fs54)) (h56 : l1 < n) (h58 : fs54[59]? = some (.int x57)) (h60 : (va_up (va_up (va_up f x10 (.inl (0, m17, .inl (upd g17 i17 l2)))) x24 (.inl (0, m31, .inl (upd g31 i31 l3)))) x38 (.inl (0, m45, .inl (upd g45 i45 l4)))) x52 = .inl (0, m59, .inl g59)) (h61 : x52 < n) (h62 : mi_ix x57 m59 i59) (h64 : (va_up (va_up (va_up (va_up f x10 (.inl (0, m17, .inl (upd g17 i17 l2)))) x24 (.inl (0, m31, .inl (upd g31 i31 l3)))) x38 (.inl (0, m45, .inl (upd g45 i45 l4)))) x52 (.inl (0, m59, .inl (upd g59 i59 l5)))) l1 = .inr (12, fs63)) (h65 : l1 < n) (h67 : fs63[64]? = some (.ref x66)) (h69 : (va_up (va_up (va_up (va_up f x10 (.inl (0, m17, .inl (upd g17 i17 l2)))) x24 (.inl (0, m31, .inl (upd g31 i31 l3)))) x38 (.inl (0, m45, .inl (upd g45 i45 l4)))) x52 (.inl (0, m59, .inl (upd g59 i59 l5)))) l1 = .inr (12, fs68)) (h70 : l1 < n) (h72 : fs68[59]? = some (.int x71)) (h74 : (va_up (va_up (va_up (va_up f x10 (.inl (0, m17, .inl (upd g17 i17 l2)))) x24 (.inl (0, m31, .inl (upd g31 i31 l3)))) x38 (.inl (0, m45, .inl (upd g45 i45 l4)))) x52 (.inl (0, m59, .inl (upd g59 i59 l5)))) x66 = .inl (3, m73, .inr (.inl g73))) (h75 : x66 < n) (h76 : mi_ix x71 m73 i73) (h78 : (va_up (va_up (va_up (va_up (va_up f x10 (.inl (0, m17, .inl (upd g17 i17 l2)))) x24 (.inl (0, m31, .inl (upd g31 i31 l3)))) x38 (.inl (0, m45, .inl (upd g45 i45 l4)))) x52 (.inl (0, m59, .inl (upd g59 i59 l5)))) x66 (.inl (3, m73, .inr (.inl (vp_updL g73 i73 l6))))) l1 = .inr (12, fs77)) (h79 : l1 < n) (h81 : fs77[59]? = some (.int x80)) (h83 : (va_up (va_up (va_up (va_up (va_up f x10 (.inl (0, m17, .inl (upd g17 i17 l2)))) x24 (.inl (0, m31, .inl (upd g31 i31 l3)))) x38 (.inl (0, m45, .inl (upd g45 i45 l4)))) x52 (.inl (0, m59, .inl (upd g59 i59 l5)))) x66 (.inl (3, m73, .inr (.inl (vp_updL g73 i73 l6))))) l1 = .inr (12, fs82)) (h84 : l1 < n) (h85 : 59 < fs82.length) (h86 : Q (.inl (some (.int (x80 + 1)))) (n, sl, (va_up (va_up (va_up (va_up (va_up (va_up f x10 (.inl (0, m17, .inl (upd g17 i17 l2)))) x24 (.inl (0, m31, .inl (upd g31 i31 l3)))) x38 (.inl (0, m45, .inl (upd g45 i45 l4)))) x52 (.inl (0, m59, .inl (upd g59 i59 l5)))) x66 (.inl (3, m73, .inr (.inl (vp_updL g73 i73 l6))))) l1 (.inr (12, fs82.set 59 (.int (x80 + 1))))))) : mi_W d 187 0 [some (.ref l1), some (.int l2), some (.int l3), some (.int l4), some (.int l5), some (.long l6), none] [] (n, sl, f) Q := by
  refine w_aload_n cd_187_0 rfl ?_
  refine w_getfield cd_187_1 (show mt_f 12 178 = some (12, 60) by decide +kernel) h8 h9 h11 ?_
  refine w_aload_n cd_187_4 rfl ?_
  refine w_getfield cd_187_5 (show mt_f 12 258 = some (12, 59) by decide +kernel) h13 h14 h16 ?_
  refine w_iload_n cd_187_8 rfl ?_
  refine w_iastore cd_187_9 h18 h19 h20 ?_
  refine w_aload_n cd_187_10 rfl ?_
  refine w_getfield cd_187_11 (show mt_f 12 181 = some (12, 61) by decide +kernel) h22 h23 h25 ?_
  refine w_aload_n cd_187_14 rfl ?_
  refine w_getfield cd_187_15 (show mt_f 12 258 = some (12, 59) by decide +kernel) h27 h28 h30 ?_
  refine w_iload_n cd_187_18 rfl ?_
  refine w_iastore cd_187_19 h32 h33 h34 ?_
  refine w_aload_n cd_187_20 rfl ?_
  refine w_getfield cd_187_21 (show mt_f 12 184 = some (12, 62) by decide +kernel) h36 h37 h39 ?_
  refine w_aload_n cd_187_24 rfl ?_
  refine w_getfield cd_187_25 (show mt_f 12 258 = some (12, 59) by decide +kernel) h41 h42 h44 ?_
  refine w_iload_n cd_187_28 rfl ?_
  refine w_iastore cd_187_29 h46 h47 h48 ?_
  refine w_aload_n cd_187_30 rfl ?_
  refine w_getfield cd_187_31 (show mt_f 12 187 = some (12, 63) by decide +kernel) h50 h51 h53 ?_
  refine w_aload_n cd_187_34 rfl ?_
  refine w_getfield cd_187_35 (show mt_f 12 258 = some (12, 59) by decide +kernel) h55 h56 h58 ?_
  refine w_iload cd_187_38 rfl ?_
  refine w_iastore cd_187_40 h60 h61 h62 ?_
  refine w_aload_n cd_187_41 rfl ?_
  refine w_getfield cd_187_42 (show mt_f 12 190 = some (12, 64) by decide +kernel) h64 h65 h67 ?_
  refine w_aload_n cd_187_45 rfl ?_
  refine w_getfield cd_187_46 (show mt_f 12 258 = some (12, 59) by decide +kernel) h69 h70 h72 ?_
  refine w_lload cd_187_49 rfl ?_
  refine w_lastore cd_187_51 h74 h75 h76 ?_
  refine w_aload_n cd_187_52 rfl ?_
  refine w_dup_r cd_187_53 ?_
  refine w_getfield cd_187_54 (show mt_f 12 258 = some (12, 59) by decide +kernel) h78 h79 h81 ?_
  refine w_iconst (v := 1) cd_187_57 (by decide) ?_
  refine w_iadd cd_187_58 ?_
  refine w_dup_x1_ir cd_187_59 ?_
  refine w_putfield (w := .int (x80 + 1)) cd_187_60 (show mt_f 12 258 = some (12, 59) by decide +kernel) h83 h84 ⟨h85, rfl, Or.inl (by decide)⟩ ?_
  exact w_ireturn_i cd_187_63 (by decide +kernel) h86
/-! MarloweHostModel.choose(IJ)I -/
theorem cd_188_0 : mt_cd 188 0 = some (.aload_n 0) := by decide +kernel
theorem cd_188_1 : mt_cd 188 1 = some (.iconst 0) := by decide +kernel
theorem cd_188_2 : mt_cd 188 2 = some (.putfield 248) := by decide +kernel
theorem cd_188_5 : mt_cd 188 5 = some (.aload_n 0) := by decide +kernel
theorem cd_188_6 : mt_cd 188 6 = some (.iload_n 1) := by decide +kernel
theorem cd_188_7 : mt_cd 188 7 = some (.i2l) := by decide +kernel
theorem cd_188_8 : mt_cd 188 8 = some (.lconst 0) := by decide +kernel
theorem cd_188_9 : mt_cd 188 9 = some (.ldc2_w 542) := by decide +kernel
theorem cd_188_12 : mt_cd 188 12 = some (.invokestatic 268) := by decide +kernel
theorem cd_188_15 : mt_cd 188 15 = some (.ifCond .ne 7) := by decide +kernel
theorem cd_188_18 : mt_cd 188 18 = some (.iconst 1) := by decide +kernel
theorem cd_188_19 : mt_cd 188 19 = some (.goto 4) := by decide +kernel
theorem cd_188_22 : mt_cd 188 22 = some (.iconst 0) := by decide +kernel
theorem cd_188_23 : mt_cd 188 23 = some (.iconst 1) := by decide +kernel
theorem cd_188_24 : mt_cd 188 24 = some (.invokevirtual 254) := by decide +kernel
theorem cd_188_27 : mt_cd 188 27 = some (.ifCond .ne 25) := by decide +kernel
theorem cd_188_30 : mt_cd 188 30 = some (.aload_n 0) := by decide +kernel
theorem cd_188_31 : mt_cd 188 31 = some (.aload_n 0) := by decide +kernel
theorem cd_188_32 : mt_cd 188 32 = some (.getfield 258) := by decide +kernel
theorem cd_188_35 : mt_cd 188 35 = some (.bipush 16) := by decide +kernel
theorem cd_188_37 : mt_cd 188 37 = some (.if_icmp .ne 7) := by decide +kernel
theorem cd_188_40 : mt_cd 188 40 = some (.iconst 1) := by decide +kernel
theorem cd_188_41 : mt_cd 188 41 = some (.goto 4) := by decide +kernel
theorem cd_188_44 : mt_cd 188 44 = some (.iconst 0) := by decide +kernel
theorem cd_188_45 : mt_cd 188 45 = some (.iconst 2) := by decide +kernel
theorem cd_188_46 : mt_cd 188 46 = some (.invokevirtual 254) := by decide +kernel
theorem cd_188_49 : mt_cd 188 49 = some (.ifCond .eq 5) := by decide +kernel
theorem cd_188_52 : mt_cd 188 52 = some (.iconst 0) := by decide +kernel
theorem cd_188_53 : mt_cd 188 53 = some (.ireturn) := by decide +kernel
theorem cd_188_54 : mt_cd 188 54 = some (.aload_n 0) := by decide +kernel
theorem cd_188_55 : mt_cd 188 55 = some (.bipush 8) := by decide +kernel
theorem cd_188_57 : mt_cd 188 57 = some (.iload_n 1) := by decide +kernel
theorem cd_188_58 : mt_cd 188 58 = some (.iconst 0) := by decide +kernel
theorem cd_188_59 : mt_cd 188 59 = some (.iconst 0) := by decide +kernel
theorem cd_188_60 : mt_cd 188 60 = some (.lload_n 2) := by decide +kernel
theorem cd_188_61 : mt_cd 188 61 = some (.invokevirtual 548) := by decide +kernel
theorem cd_188_64 : mt_cd 188 64 = some (.ireturn) := by decide +kernel
theorem b_188_0 {d : Nat} {Q : (Option Value ⊕ Nat) → mi_H → Prop} (n sl : Nat) (f : Nat → mi_C) {l1 : Nat} {l2 : Int32} {l3 : Int64} {fs4 : List Value} (h5 : f l1 = .inr (12, fs4)) (h6 : l1 < n) (h7 : 0 < fs4.length) (h8 : mi_W d 141 0 (mi_en 6 [.long ((l2 : Int32).toInt64), .long 0, .long 7]) [] (n, sl, (va_up f l1 (.inr (12, fs4.set 0 (.int 0))))) (mi_Kc d 188 12 [some (.ref l1), some (.int l2), some (.long l3), none] [.ref l1] Q)) : mi_W (d + 1) 188 0 [some (.ref l1), some (.int l2), some (.long l3), none] [] (n, sl, f) Q := by
  refine w_aload_n cd_188_0 rfl ?_
  refine w_iconst (v := 0) cd_188_1 (by decide) ?_
  refine w_putfield (w := .int 0) cd_188_2 (show mt_f 12 248 = some (12, 0) by decide +kernel) h5 h6 ⟨h7, rfl, Or.inl (by decide)⟩ ?_
  refine w_aload_n cd_188_5 rfl ?_
  refine w_iload_n cd_188_6 rfl ?_
  refine w_i2l cd_188_7 ?_
  refine w_lconst (lv := 0) cd_188_8 (by decide) ?_
  refine w_ldc2_w (lv := 7) cd_188_9 (by decide +kernel) ?_
  exact w_invokestatic cd_188_12 (show mt_m 12 268 = some (141, 4) by decide +kernel) (by decide) (rest := [.ref l1]) rfl (as := [.long ((l2 : Int32).toInt64), .long 0, .long 7]) rfl ⟨Nat.le_of_ble_eq_true rfl, Nat.le_of_ble_eq_true rfl, Nat.le_of_ble_eq_true rfl⟩ h8
theorem b_188_15 {d : Nat} {Q : (Option Value ⊕ Nat) → mi_H → Prop} (n sl : Nat) (f : Nat → mi_C) {l1 : Nat} {l2 : Int32} {l3 : Int64} {s4 : Int32} {s5 : Nat} (h6 : ¬ s4 = (0 : Int32) → mi_W d 188 22 [some (.ref l1), some (.int l2), some (.long l3), none] [.ref s5] (n, sl, f) Q) (h7 : ¬ (¬ s4 = (0 : Int32)) → mi_W d 188 18 [some (.ref l1), some (.int l2), some (.long l3), none] [.ref s5] (n, sl, f) Q) : mi_W d 188 15 [some (.ref l1), some (.int l2), some (.long l3), none] [.int s4, .ref s5] (n, sl, f) Q := by
  exact w_ifne cd_188_15 (by decide) h6 h7
theorem b_188_18 {d : Nat} {Q : (Option Value ⊕ Nat) → mi_H → Prop} (n sl : Nat) (f : Nat → mi_C) {l1 : Nat} {l2 : Int32} {l3 : Int64} {s4 : Nat} (h5 : mi_W d 188 23 [some (.ref l1), some (.int l2), some (.long l3), none] [.int 1, .ref s4] (n, sl, f) Q) : mi_W d 188 18 [some (.ref l1), some (.int l2), some (.long l3), none] [.ref s4] (n, sl, f) Q := by
  refine w_iconst (v := 1) cd_188_18 (by decide) ?_
  exact w_goto cd_188_19 (by decide) h5
theorem b_188_22 {d : Nat} {Q : (Option Value ⊕ Nat) → mi_H → Prop} (n sl : Nat) (f : Nat → mi_C) {l1 : Nat} {l2 : Int32} {l3 : Int64} {s4 : Nat} (h5 : mi_W d 188 23 [some (.ref l1), some (.int l2), some (.long l3), none] [.int 0, .ref s4] (n, sl, f) Q) : mi_W d 188 22 [some (.ref l1), some (.int l2), some (.long l3), none] [.ref s4] (n, sl, f) Q := by
  refine w_iconst (v := 0) cd_188_22 (by decide) ?_
  exact h5
theorem b_188_23 {d : Nat} {Q : (Option Value ⊕ Nat) → mi_H → Prop} (n sl : Nat) (f : Nat → mi_C) {l1 : Nat} {l2 : Int32} {l3 : Int64} {s4 : Int32} {s5 : Nat} {fs6 : List Value} (h7 : f s5 = .inr (12, fs6)) (h8 : s5 < n) (h9 : mi_W d 139 0 (mi_en 3 [.ref s5, .int s4, .int 1]) [] (n, sl, f) (mi_Kc d 188 24 [some (.ref l1), some (.int l2), some (.long l3), none] [] Q)) : mi_W (d + 1) 188 23 [some (.ref l1), some (.int l2), some (.long l3), none] [.int s4, .ref s5] (n, sl, f) Q := by
  refine w_iconst (v := 1) cd_188_23 (by decide) ?_
  exact w_invokevirtual cd_188_24 (show mt_m 12 254 = some (139, 0) by decide +kernel) (rest := []) rfl (as := [.ref s5, .int s4, .int 1]) rfl h7 (Or.inl h8) ⟨Nat.le_of_ble_eq_true rfl, Nat.le_of_ble_eq_true rfl, Nat.le_of_ble_eq_true rfl⟩ h9
theorem b_188_27 {d : Nat} {Q : (Option Value ⊕ Nat) → mi_H → Prop} (n sl : Nat) (f : Nat → mi_C) {l1 : Nat} {l2 : Int32} {l3 : Int64} {s4 : Int32} (h5 : ¬ s4 = (0 : Int32) → mi_W d 188 52 [some (.ref l1), some (.int l2), some (.long l3), none] [] (n, sl, f) Q) (h6 : ¬ (¬ s4 = (0 : Int32)) → mi_W d 188 30 [some (.ref l1), some (.int l2), some (.long l3), none] [] (n, sl, f) Q) : mi_W d 188 27 [some (.ref l1), some (.int l2), some (.long l3), none] [.int s4] (n, sl, f) Q := by
  exact w_ifne cd_188_27 (by decide) h5 h6
theorem b_188_30 {d : Nat} {Q : (Option Value ⊕ Nat) → mi_H → Prop} (n sl : Nat) (f : Nat → mi_C) {l1 : Nat} {l2 : Int32} {l3 : Int64} {fs4 : List Value} {x7 : Int32} (h5 : f l1 = .inr (12, fs4)) (h6 : l1 < n) (h8 : fs4[59]? = some (.int x7)) (h9 : ¬ x7 = 16 → mi_W d 188 44 [some (.ref l1), some (.int l2), some (.long l3), none] [.ref l1] (n, sl, f) Q) (h10 : ¬ (¬ x7 = 16) → mi_W d 188 40 [some (.ref l1), some (.int l2), some (.long l3), none] [.ref l1] (n, sl, f) Q) : mi_W d 188 30 [some (.ref l1), some (.int l2), some (.long l3), none] [] (n, sl, f) Q := by
  refine w_aload_n cd_188_30 rfl ?_
  refine w_aload_n cd_188_31 rfl ?_
  refine w_getfield cd_188_32 (show mt_f 12 258 = some (12, 59) by decide +kernel) h5 h6 h8 ?_
  refine w_bipush (v := 16) cd_188_35 (by decide) ?_
  exact w_if_icmpne cd_188_37 (by decide) h9 h10
theorem b_188_40 {d : Nat} {Q : (Option Value ⊕ Nat) → mi_H → Prop} (n sl : Nat) (f : Nat → mi_C) {l1 : Nat} {l2 : Int32} {l3 : Int64} {s4 : Nat} (h5 : mi_W d 188 45 [some (.ref l1), some (.int l2), some (.long l3), none] [.int 1, .ref s4] (n, sl, f) Q) : mi_W d 188 40 [some (.ref l1), some (.int l2), some (.long l3), none] [.ref s4] (n, sl, f) Q := by
  refine w_iconst (v := 1) cd_188_40 (by decide) ?_
  exact w_goto cd_188_41 (by decide) h5
theorem b_188_44 {d : Nat} {Q : (Option Value ⊕ Nat) → mi_H → Prop} (n sl : Nat) (f : Nat → mi_C) {l1 : Nat} {l2 : Int32} {l3 : Int64} {s4 : Nat} (h5 : mi_W d 188 45 [some (.ref l1), some (.int l2), some (.long l3), none] [.int 0, .ref s4] (n, sl, f) Q) : mi_W d 188 44 [some (.ref l1), some (.int l2), some (.long l3), none] [.ref s4] (n, sl, f) Q := by
  refine w_iconst (v := 0) cd_188_44 (by decide) ?_
  exact h5
theorem b_188_45 {d : Nat} {Q : (Option Value ⊕ Nat) → mi_H → Prop} (n sl : Nat) (f : Nat → mi_C) {l1 : Nat} {l2 : Int32} {l3 : Int64} {s4 : Int32} {s5 : Nat} {fs6 : List Value} (h7 : f s5 = .inr (12, fs6)) (h8 : s5 < n) (h9 : mi_W d 139 0 (mi_en 3 [.ref s5, .int s4, .int 2]) [] (n, sl, f) (mi_Kc d 188 46 [some (.ref l1), some (.int l2), some (.long l3), none] [] Q)) : mi_W (d + 1) 188 45 [some (.ref l1), some (.int l2), some (.long l3), none] [.int s4, .ref s5] (n, sl, f) Q := by
  refine w_iconst (v := 2) cd_188_45 (by decide) ?_
  exact w_invokevirtual cd_188_46 (show mt_m 12 254 = some (139, 0) by decide +kernel) (rest := []) rfl (as := [.ref s5, .int s4, .int 2]) rfl h7 (Or.inl h8) ⟨Nat.le_of_ble_eq_true rfl, Nat.le_of_ble_eq_true rfl, Nat.le_of_ble_eq_true rfl⟩ h9
theorem b_188_49 {d : Nat} {Q : (Option Value ⊕ Nat) → mi_H → Prop} (n sl : Nat) (f : Nat → mi_C) {l1 : Nat} {l2 : Int32} {l3 : Int64} {s4 : Int32} (h5 : s4 = (0 : Int32) → mi_W d 188 54 [some (.ref l1), some (.int l2), some (.long l3), none] [] (n, sl, f) Q) (h6 : ¬ (s4 = (0 : Int32)) → mi_W d 188 52 [some (.ref l1), some (.int l2), some (.long l3), none] [] (n, sl, f) Q) : mi_W d 188 49 [some (.ref l1), some (.int l2), some (.long l3), none] [.int s4] (n, sl, f) Q := by
  exact w_ifeq cd_188_49 (by decide) h5 h6
theorem b_188_52 {d : Nat} {Q : (Option Value ⊕ Nat) → mi_H → Prop} (n sl : Nat) (f : Nat → mi_C) {l1 : Nat} {l2 : Int32} {l3 : Int64} (h4 : Q (.inl (some (.int 0))) (n, sl, f)) : mi_W d 188 52 [some (.ref l1), some (.int l2), some (.long l3), none] [] (n, sl, f) Q := by
  refine w_iconst (v := 0) cd_188_52 (by decide) ?_
  exact w_ireturn_i cd_188_53 (by decide +kernel) h4
theorem b_188_54 {d : Nat} {Q : (Option Value ⊕ Nat) → mi_H → Prop} (n sl : Nat) (f : Nat → mi_C) {l1 : Nat} {l2 : Int32} {l3 : Int64} {fs4 : List Value} (h5 : f l1 = .inr (12, fs4)) (h6 : l1 < n) (h7 : mi_W d 187 0 (mi_en 7 [.ref l1, .int 8, .int l2, .int 0, .int 0, .long l3]) [] (n, sl, f) (mi_Kc d 188 61 [some (.ref l1), some (.int l2), some (.long l3), none] [] Q)) : mi_W (d + 1) 188 54 [some (.ref l1), some (.int l2), some (.long l3), none] [] (n, sl, f) Q := by
  refine w_aload_n cd_188_54 rfl ?_
  refine w_bipush (v := 8) cd_188_55 (by decide) ?_
  refine w_iload_n cd_188_57 rfl ?_
  refine w_iconst (v := 0) cd_188_58 (by decide) ?_
  refine w_iconst (v := 0) cd_188_59 (by decide) ?_
  refine w_lload_n cd_188_60 rfl ?_
  exact w_invokevirtual cd_188_61 (show mt_m 12 548 = some (187, 0) by decide +kernel) (rest := []) rfl (as := [.ref l1, .int 8, .int l2, .int 0, .int 0, .long l3]) rfl h5 (Or.inl h6) ⟨Nat.le_of_ble_eq_true rfl, Nat.le_of_ble_eq_true rfl, Nat.le_of_ble_eq_true rfl⟩ h7
theorem b_188_64 {d : Nat} {Q : (Option Value ⊕ Nat) → mi_H → Prop} (n sl : Nat) (f : Nat → mi_C) {l1 : Nat} {l2 : Int32} {l3 : Int64} {s4 : Int32} (h5 : Q (.inl (some (.int s4))) (n, sl, f)) : mi_W d 188 64 [some (.ref l1), some (.int l2), some (.long l3), none] [.int s4] (n, sl, f) Q := by
  exact w_ireturn_i cd_188_64 (by decide +kernel) h5
/-! MarloweHostModel.remind()I -/
theorem cd_189_0 : mt_cd 189 0 = some (.aload_n 0) := by decide +kernel
theorem cd_189_1 : mt_cd 189 1 = some (.iconst 0) := by decide +kernel
theorem cd_189_2 : mt_cd 189 2 = some (.putfield 248) := by decide +kernel
theorem cd_189_5 : mt_cd 189 5 = some (.aload_n 0) := by decide +kernel
theorem cd_189_6 : mt_cd 189 6 = some (.aload_n 0) := by decide +kernel
theorem cd_189_7 : mt_cd 189 7 = some (.getfield 258) := by decide +kernel
theorem cd_189_10 : mt_cd 189 10 = some (.bipush 16) := by decide +kernel
theorem cd_189_12 : mt_cd 189 12 = some (.if_icmp .ne 7) := by decide +kernel
theorem cd_189_15 : mt_cd 189 15 = some (.iconst 1) := by decide +kernel
theorem cd_189_16 : mt_cd 189 16 = some (.goto 4) := by decide +kernel
theorem cd_189_19 : mt_cd 189 19 = some (.iconst 0) := by decide +kernel
theorem cd_189_20 : mt_cd 189 20 = some (.iconst 1) := by decide +kernel
theorem cd_189_21 : mt_cd 189 21 = some (.invokevirtual 254) := by decide +kernel
theorem cd_189_24 : mt_cd 189 24 = some (.ifCond .eq 5) := by decide +kernel
theorem cd_189_27 : mt_cd 189 27 = some (.iconst 0) := by decide +kernel
theorem cd_189_28 : mt_cd 189 28 = some (.ireturn) := by decide +kernel
theorem cd_189_29 : mt_cd 189 29 = some (.aload_n 0) := by decide +kernel
theorem cd_189_30 : mt_cd 189 30 = some (.bipush 9) := by decide +kernel
theorem cd_189_32 : mt_cd 189 32 = some (.iconst 0) := by decide +kernel
theorem cd_189_33 : mt_cd 189 33 = some (.iconst 0) := by decide +kernel
theorem cd_189_34 : mt_cd 189 34 = some (.iconst 0) := by decide +kernel
theorem cd_189_35 : mt_cd 189 35 = some (.lconst 0) := by decide +kernel
theorem cd_189_36 : mt_cd 189 36 = some (.invokevirtual 548) := by decide +kernel
theorem cd_189_39 : mt_cd 189 39 = some (.ireturn) := by decide +kernel
theorem b_189_0 {d : Nat} {Q : (Option Value ⊕ Nat) → mi_H → Prop} (n sl : Nat) (f : Nat → mi_C) {l1 : Nat} {fs2 : List Value} {fs6 : List Value} {x9 : Int32} (h3 : f l1 = .inr (12, fs2)) (h4 : l1 < n) (h5 : 0 < fs2.length) (h7 : (va_up f l1 (.inr (12, fs2.set 0 (.int 0)))) l1 = .inr (12, fs6)) (h8 : l1 < n) (h10 : fs6[59]? = some (.int x9)) (h11 : ¬ x9 = 16 → mi_W d 189 19 [some (.ref l1)] [.ref l1] (n, sl, (va_up f l1 (.inr (12, fs2.set 0 (.int 0))))) Q) (h12 : ¬ (¬ x9 = 16) → mi_W d 189 15 [some (.ref l1)] [.ref l1] (n, sl, (va_up f l1 (.inr (12, fs2.set 0 (.int 0))))) Q) : mi_W d 189 0 [some (.ref l1)] [] (n, sl, f) Q := by
  refine w_aload_n cd_189_0 rfl ?_
  refine w_iconst (v := 0) cd_189_1 (by decide) ?_
  refine w_putfield (w := .int 0) cd_189_2 (show mt_f 12 248 = some (12, 0) by decide +kernel) h3 h4 ⟨h5, rfl, Or.inl (by decide)⟩ ?_
  refine w_aload_n cd_189_5 rfl ?_
  refine w_aload_n cd_189_6 rfl ?_
  refine w_getfield cd_189_7 (show mt_f 12 258 = some (12, 59) by decide +kernel) h7 h8 h10 ?_
  refine w_bipush (v := 16) cd_189_10 (by decide) ?_
  exact w_if_icmpne cd_189_12 (by decide) h11 h12
theorem b_189_15 {d : Nat} {Q : (Option Value ⊕ Nat) → mi_H → Prop} (n sl : Nat) (f : Nat → mi_C) {l1 : Nat} {s2 : Nat} (h3 : mi_W d 189 20 [some (.ref l1)] [.int 1, .ref s2] (n, sl, f) Q) : mi_W d 189 15 [some (.ref l1)] [.ref s2] (n, sl, f) Q := by
  refine w_iconst (v := 1) cd_189_15 (by decide) ?_
  exact w_goto cd_189_16 (by decide) h3
theorem b_189_19 {d : Nat} {Q : (Option Value ⊕ Nat) → mi_H → Prop} (n sl : Nat) (f : Nat → mi_C) {l1 : Nat} {s2 : Nat} (h3 : mi_W d 189 20 [some (.ref l1)] [.int 0, .ref s2] (n, sl, f) Q) : mi_W d 189 19 [some (.ref l1)] [.ref s2] (n, sl, f) Q := by
  refine w_iconst (v := 0) cd_189_19 (by decide) ?_
  exact h3
theorem b_189_20 {d : Nat} {Q : (Option Value ⊕ Nat) → mi_H → Prop} (n sl : Nat) (f : Nat → mi_C) {l1 : Nat} {s2 : Int32} {s3 : Nat} {fs4 : List Value} (h5 : f s3 = .inr (12, fs4)) (h6 : s3 < n) (h7 : mi_W d 139 0 (mi_en 3 [.ref s3, .int s2, .int 1]) [] (n, sl, f) (mi_Kc d 189 21 [some (.ref l1)] [] Q)) : mi_W (d + 1) 189 20 [some (.ref l1)] [.int s2, .ref s3] (n, sl, f) Q := by
  refine w_iconst (v := 1) cd_189_20 (by decide) ?_
  exact w_invokevirtual cd_189_21 (show mt_m 12 254 = some (139, 0) by decide +kernel) (rest := []) rfl (as := [.ref s3, .int s2, .int 1]) rfl h5 (Or.inl h6) ⟨Nat.le_of_ble_eq_true rfl, Nat.le_of_ble_eq_true rfl, Nat.le_of_ble_eq_true rfl⟩ h7
theorem b_189_24 {d : Nat} {Q : (Option Value ⊕ Nat) → mi_H → Prop} (n sl : Nat) (f : Nat → mi_C) {l1 : Nat} {s2 : Int32} (h3 : s2 = (0 : Int32) → mi_W d 189 29 [some (.ref l1)] [] (n, sl, f) Q) (h4 : ¬ (s2 = (0 : Int32)) → mi_W d 189 27 [some (.ref l1)] [] (n, sl, f) Q) : mi_W d 189 24 [some (.ref l1)] [.int s2] (n, sl, f) Q := by
  exact w_ifeq cd_189_24 (by decide) h3 h4
theorem b_189_27 {d : Nat} {Q : (Option Value ⊕ Nat) → mi_H → Prop} (n sl : Nat) (f : Nat → mi_C) {l1 : Nat} (h2 : Q (.inl (some (.int 0))) (n, sl, f)) : mi_W d 189 27 [some (.ref l1)] [] (n, sl, f) Q := by
  refine w_iconst (v := 0) cd_189_27 (by decide) ?_
  exact w_ireturn_i cd_189_28 (by decide +kernel) h2
theorem b_189_29 {d : Nat} {Q : (Option Value ⊕ Nat) → mi_H → Prop} (n sl : Nat) (f : Nat → mi_C) {l1 : Nat} {fs2 : List Value} (h3 : f l1 = .inr (12, fs2)) (h4 : l1 < n) (h5 : mi_W d 187 0 (mi_en 7 [.ref l1, .int 9, .int 0, .int 0, .int 0, .long 0]) [] (n, sl, f) (mi_Kc d 189 36 [some (.ref l1)] [] Q)) : mi_W (d + 1) 189 29 [some (.ref l1)] [] (n, sl, f) Q := by
  refine w_aload_n cd_189_29 rfl ?_
  refine w_bipush (v := 9) cd_189_30 (by decide) ?_
  refine w_iconst (v := 0) cd_189_32 (by decide) ?_
  refine w_iconst (v := 0) cd_189_33 (by decide) ?_
  refine w_iconst (v := 0) cd_189_34 (by decide) ?_
  refine w_lconst (lv := 0) cd_189_35 (by decide) ?_
  exact w_invokevirtual cd_189_36 (show mt_m 12 548 = some (187, 0) by decide +kernel) (rest := []) rfl (as := [.ref l1, .int 9, .int 0, .int 0, .int 0, .long 0]) rfl h3 (Or.inl h4) ⟨Nat.le_of_ble_eq_true rfl, Nat.le_of_ble_eq_true rfl, Nat.le_of_ble_eq_true rfl⟩ h5
theorem b_189_39 {d : Nat} {Q : (Option Value ⊕ Nat) → mi_H → Prop} (n sl : Nat) (f : Nat → mi_C) {l1 : Nat} {s2 : Int32} (h3 : Q (.inl (some (.int s2))) (n, sl, f)) : mi_W d 189 39 [some (.ref l1)] [.int s2] (n, sl, f) Q := by
  exact w_ireturn_i cd_189_39 (by decide +kernel) h3
/-! MarloweHostModel.told(II)I -/
theorem cd_190_0 : mt_cd 190 0 = some (.aload_n 0) := by decide +kernel
theorem cd_190_1 : mt_cd 190 1 = some (.iconst 0) := by decide +kernel
theorem cd_190_2 : mt_cd 190 2 = some (.putfield 248) := by decide +kernel
theorem cd_190_5 : mt_cd 190 5 = some (.aload_n 0) := by decide +kernel
theorem cd_190_6 : mt_cd 190 6 = some (.iload_n 1) := by decide +kernel
theorem cd_190_7 : mt_cd 190 7 = some (.i2l) := by decide +kernel
theorem cd_190_8 : mt_cd 190 8 = some (.lconst 0) := by decide +kernel
theorem cd_190_9 : mt_cd 190 9 = some (.ldc2_w 552) := by decide +kernel
theorem cd_190_12 : mt_cd 190 12 = some (.invokestatic 268) := by decide +kernel
theorem cd_190_15 : mt_cd 190 15 = some (.ifCond .ne 7) := by decide +kernel
theorem cd_190_18 : mt_cd 190 18 = some (.iconst 1) := by decide +kernel
theorem cd_190_19 : mt_cd 190 19 = some (.goto 4) := by decide +kernel
theorem cd_190_22 : mt_cd 190 22 = some (.iconst 0) := by decide +kernel
theorem cd_190_23 : mt_cd 190 23 = some (.iconst 1) := by decide +kernel
theorem cd_190_24 : mt_cd 190 24 = some (.invokevirtual 254) := by decide +kernel
theorem cd_190_27 : mt_cd 190 27 = some (.ifCond .ne 44) := by decide +kernel
theorem cd_190_30 : mt_cd 190 30 = some (.aload_n 0) := by decide +kernel
theorem cd_190_31 : mt_cd 190 31 = some (.iload_n 2) := by decide +kernel
theorem cd_190_32 : mt_cd 190 32 = some (.i2l) := by decide +kernel
theorem cd_190_33 : mt_cd 190 33 = some (.lconst 0) := by decide +kernel
theorem cd_190_34 : mt_cd 190 34 = some (.iload_n 1) := by decide +kernel
theorem cd_190_35 : mt_cd 190 35 = some (.iconst 2) := by decide +kernel
theorem cd_190_36 : mt_cd 190 36 = some (.if_icmp .ge 10) := by decide +kernel
theorem cd_190_39 : mt_cd 190 39 = some (.aload_n 0) := by decide +kernel
theorem cd_190_40 : mt_cd 190 40 = some (.getfield 536) := by decide +kernel
theorem cd_190_43 : mt_cd 190 43 = some (.goto 7) := by decide +kernel
theorem cd_190_46 : mt_cd 190 46 = some (.aload_n 0) := by decide +kernel
theorem cd_190_47 : mt_cd 190 47 = some (.getfield 539) := by decide +kernel
theorem cd_190_50 : mt_cd 190 50 = some (.iconst 1) := by decide +kernel
theorem cd_190_51 : mt_cd 190 51 = some (.isub) := by decide +kernel
theorem cd_190_52 : mt_cd 190 52 = some (.i2l) := by decide +kernel
theorem cd_190_53 : mt_cd 190 53 = some (.invokestatic 268) := by decide +kernel
theorem cd_190_56 : mt_cd 190 56 = some (.ifCond .ne 7) := by decide +kernel
theorem cd_190_59 : mt_cd 190 59 = some (.iconst 1) := by decide +kernel
theorem cd_190_60 : mt_cd 190 60 = some (.goto 4) := by decide +kernel
theorem cd_190_63 : mt_cd 190 63 = some (.iconst 0) := by decide +kernel
theorem cd_190_64 : mt_cd 190 64 = some (.iconst 2) := by decide +kernel
theorem cd_190_65 : mt_cd 190 65 = some (.invokevirtual 254) := by decide +kernel
theorem cd_190_68 : mt_cd 190 68 = some (.ifCond .eq 5) := by decide +kernel
theorem cd_190_71 : mt_cd 190 71 = some (.iconst 0) := by decide +kernel
theorem cd_190_72 : mt_cd 190 72 = some (.ireturn) := by decide +kernel
theorem cd_190_73 : mt_cd 190 73 = some (.iload_n 1) := by decide +kernel
theorem cd_190_74 : mt_cd 190 74 = some (.ifCond .ne 12) := by decide +kernel
theorem cd_190_77 : mt_cd 190 77 = some (.aload_n 0) := by decide +kernel
theorem cd_190_78 : mt_cd 190 78 = some (.getfield 193) := by decide +kernel
theorem cd_190_81 : mt_cd 190 81 = some (.iload_n 2) := by decide +kernel
theorem cd_190_82 : mt_cd 190 82 = some (.iaload) := by decide +kernel
theorem cd_190_83 : mt_cd 190 83 = some (.goto 51) := by decide +kernel
theorem cd_190_86 : mt_cd 190 86 = some (.iload_n 1) := by decide +kernel
theorem cd_190_87 : mt_cd 190 87 = some (.iconst 1) := by decide +kernel
theorem cd_190_88 : mt_cd 190 88 = some (.if_icmp .ne 12) := by decide +kernel
theorem cd_190_91 : mt_cd 190 91 = some (.aload_n 0) := by decide +kernel
theorem cd_190_92 : mt_cd 190 92 = some (.getfield 196) := by decide +kernel
theorem cd_190_95 : mt_cd 190 95 = some (.iload_n 2) := by decide +kernel
theorem cd_190_96 : mt_cd 190 96 = some (.iaload) := by decide +kernel
theorem cd_190_97 : mt_cd 190 97 = some (.goto 37) := by decide +kernel
theorem cd_190_100 : mt_cd 190 100 = some (.iload_n 1) := by decide +kernel
theorem cd_190_101 : mt_cd 190 101 = some (.iconst 2) := by decide +kernel
theorem cd_190_102 : mt_cd 190 102 = some (.if_icmp .ne 12) := by decide +kernel
theorem cd_190_105 : mt_cd 190 105 = some (.aload_n 0) := by decide +kernel
theorem cd_190_106 : mt_cd 190 106 = some (.getfield 199) := by decide +kernel
theorem cd_190_109 : mt_cd 190 109 = some (.iload_n 2) := by decide +kernel
theorem cd_190_110 : mt_cd 190 110 = some (.iaload) := by decide +kernel
theorem cd_190_111 : mt_cd 190 111 = some (.goto 23) := by decide +kernel
theorem cd_190_114 : mt_cd 190 114 = some (.iload_n 1) := by decide +kernel
theorem cd_190_115 : mt_cd 190 115 = some (.iconst 3) := by decide +kernel
theorem cd_190_116 : mt_cd 190 116 = some (.if_icmp .ne 12) := by decide +kernel
theorem cd_190_119 : mt_cd 190 119 = some (.aload_n 0) := by decide +kernel
theorem cd_190_120 : mt_cd 190 120 = some (.getfield 202) := by decide +kernel
theorem cd_190_123 : mt_cd 190 123 = some (.iload_n 2) := by decide +kernel
theorem cd_190_124 : mt_cd 190 124 = some (.iaload) := by decide +kernel
theorem cd_190_125 : mt_cd 190 125 = some (.goto 9) := by decide +kernel
theorem cd_190_128 : mt_cd 190 128 = some (.aload_n 0) := by decide +kernel
theorem cd_190_129 : mt_cd 190 129 = some (.getfield 205) := by decide +kernel
theorem cd_190_132 : mt_cd 190 132 = some (.iload_n 2) := by decide +kernel
theorem cd_190_133 : mt_cd 190 133 = some (.iaload) := by decide +kernel
theorem cd_190_134 : mt_cd 190 134 = some (.ireturn) := by decide +kernel
theorem b_190_0 {d : Nat} {Q : (Option Value ⊕ Nat) → mi_H → Prop} (n sl : Nat) (f : Nat → mi_C) {l1 : Nat} {l2 : Int32} {l3 : Int32} {fs4 : List Value} (h5 : f l1 = .inr (12, fs4)) (h6 : l1 < n) (h7 : 0 < fs4.length) (h8 : mi_W d 141 0 (mi_en 6 [.long ((l2 : Int32).toInt64), .long 0, .long 4]) [] (n, sl, (va_up f l1 (.inr (12, fs4.set 0 (.int 0))))) (mi_Kc d 190 12 [some (.ref l1), some (.int l2), some (.int l3)] [.ref l1] Q)) : mi_W (d + 1) 190 0 [some (.ref l1), some (.int l2), some (.int l3)] [] (n, sl, f) Q := by
  refine w_aload_n cd_190_0 rfl ?_
  refine w_iconst (v := 0) cd_190_1 (by decide) ?_
  refine w_putfield (w := .int 0) cd_190_2 (show mt_f 12 248 = some (12, 0) by decide +kernel) h5 h6 ⟨h7, rfl, Or.inl (by decide)⟩ ?_
  refine w_aload_n cd_190_5 rfl ?_
  refine w_iload_n cd_190_6 rfl ?_
  refine w_i2l cd_190_7 ?_
  refine w_lconst (lv := 0) cd_190_8 (by decide) ?_
  refine w_ldc2_w (lv := 4) cd_190_9 (by decide +kernel) ?_
  exact w_invokestatic cd_190_12 (show mt_m 12 268 = some (141, 4) by decide +kernel) (by decide) (rest := [.ref l1]) rfl (as := [.long ((l2 : Int32).toInt64), .long 0, .long 4]) rfl ⟨Nat.le_of_ble_eq_true rfl, Nat.le_of_ble_eq_true rfl, Nat.le_of_ble_eq_true rfl⟩ h8
theorem b_190_15 {d : Nat} {Q : (Option Value ⊕ Nat) → mi_H → Prop} (n sl : Nat) (f : Nat → mi_C) {l1 : Nat} {l2 : Int32} {l3 : Int32} {s4 : Int32} {s5 : Nat} (h6 : ¬ s4 = (0 : Int32) → mi_W d 190 22 [some (.ref l1), some (.int l2), some (.int l3)] [.ref s5] (n, sl, f) Q) (h7 : ¬ (¬ s4 = (0 : Int32)) → mi_W d 190 18 [some (.ref l1), some (.int l2), some (.int l3)] [.ref s5] (n, sl, f) Q) : mi_W d 190 15 [some (.ref l1), some (.int l2), some (.int l3)] [.int s4, .ref s5] (n, sl, f) Q := by
  exact w_ifne cd_190_15 (by decide) h6 h7
theorem b_190_18 {d : Nat} {Q : (Option Value ⊕ Nat) → mi_H → Prop} (n sl : Nat) (f : Nat → mi_C) {l1 : Nat} {l2 : Int32} {l3 : Int32} {s4 : Nat} (h5 : mi_W d 190 23 [some (.ref l1), some (.int l2), some (.int l3)] [.int 1, .ref s4] (n, sl, f) Q) : mi_W d 190 18 [some (.ref l1), some (.int l2), some (.int l3)] [.ref s4] (n, sl, f) Q := by
  refine w_iconst (v := 1) cd_190_18 (by decide) ?_
  exact w_goto cd_190_19 (by decide) h5
theorem b_190_22 {d : Nat} {Q : (Option Value ⊕ Nat) → mi_H → Prop} (n sl : Nat) (f : Nat → mi_C) {l1 : Nat} {l2 : Int32} {l3 : Int32} {s4 : Nat} (h5 : mi_W d 190 23 [some (.ref l1), some (.int l2), some (.int l3)] [.int 0, .ref s4] (n, sl, f) Q) : mi_W d 190 22 [some (.ref l1), some (.int l2), some (.int l3)] [.ref s4] (n, sl, f) Q := by
  refine w_iconst (v := 0) cd_190_22 (by decide) ?_
  exact h5
theorem b_190_23 {d : Nat} {Q : (Option Value ⊕ Nat) → mi_H → Prop} (n sl : Nat) (f : Nat → mi_C) {l1 : Nat} {l2 : Int32} {l3 : Int32} {s4 : Int32} {s5 : Nat} {fs6 : List Value} (h7 : f s5 = .inr (12, fs6)) (h8 : s5 < n) (h9 : mi_W d 139 0 (mi_en 3 [.ref s5, .int s4, .int 1]) [] (n, sl, f) (mi_Kc d 190 24 [some (.ref l1), some (.int l2), some (.int l3)] [] Q)) : mi_W (d + 1) 190 23 [some (.ref l1), some (.int l2), some (.int l3)] [.int s4, .ref s5] (n, sl, f) Q := by
  refine w_iconst (v := 1) cd_190_23 (by decide) ?_
  exact w_invokevirtual cd_190_24 (show mt_m 12 254 = some (139, 0) by decide +kernel) (rest := []) rfl (as := [.ref s5, .int s4, .int 1]) rfl h7 (Or.inl h8) ⟨Nat.le_of_ble_eq_true rfl, Nat.le_of_ble_eq_true rfl, Nat.le_of_ble_eq_true rfl⟩ h9
theorem b_190_27 {d : Nat} {Q : (Option Value ⊕ Nat) → mi_H → Prop} (n sl : Nat) (f : Nat → mi_C) {l1 : Nat} {l2 : Int32} {l3 : Int32} {s4 : Int32} (h5 : ¬ s4 = (0 : Int32) → mi_W d 190 71 [some (.ref l1), some (.int l2), some (.int l3)] [] (n, sl, f) Q) (h6 : ¬ (¬ s4 = (0 : Int32)) → mi_W d 190 30 [some (.ref l1), some (.int l2), some (.int l3)] [] (n, sl, f) Q) : mi_W d 190 27 [some (.ref l1), some (.int l2), some (.int l3)] [.int s4] (n, sl, f) Q := by
  exact w_ifne cd_190_27 (by decide) h5 h6
theorem b_190_30 {d : Nat} {Q : (Option Value ⊕ Nat) → mi_H → Prop} (n sl : Nat) (f : Nat → mi_C) {l1 : Nat} {l2 : Int32} {l3 : Int32} (h4 : 2 ≤ l2 → mi_W d 190 46 [some (.ref l1), some (.int l2), some (.int l3)] [.long 0, .long ((l3 : Int32).toInt64), .ref l1] (n, sl, f) Q) (h5 : ¬ (2 ≤ l2) → mi_W d 190 39 [some (.ref l1), some (.int l2), some (.int l3)] [.long 0, .long ((l3 : Int32).toInt64), .ref l1] (n, sl, f) Q) : mi_W d 190 30 [some (.ref l1), some (.int l2), some (.int l3)] [] (n, sl, f) Q := by
  refine w_aload_n cd_190_30 rfl ?_
  refine w_iload_n cd_190_31 rfl ?_
  refine w_i2l cd_190_32 ?_
  refine w_lconst (lv := 0) cd_190_33 (by decide) ?_
  refine w_iload_n cd_190_34 rfl ?_
  refine w_iconst (v := 2) cd_190_35 (by decide) ?_
  exact w_if_icmpge cd_190_36 (by decide) h4 h5
theorem b_190_39 {d : Nat} {Q : (Option Value ⊕ Nat) → mi_H → Prop} (n sl : Nat) (f : Nat → mi_C) {l1 : Nat} {l2 : Int32} {l3 : Int32} {s4 : Int64} {s5 : Int64} {s6 : Nat} {fs7 : List Value} {x10 : Int32} (h8 : f l1 = .inr (12, fs7)) (h9 : l1 < n) (h11 : fs7[65]? = some (.int x10)) (h12 : mi_W d 190 50 [some (.ref l1), some (.int l2), some (.int l3)] [.int x10, .long s4, .long s5, .ref s6] (n, sl, f) Q) : mi_W d 190 39 [some (.ref l1), some (.int l2), some (.int l3)] [.long s4, .long s5, .ref s6] (n, sl, f) Q := by
  refine w_aload_n cd_190_39 rfl ?_
  refine w_getfield cd_190_40 (show mt_f 12 536 = some (12, 65) by decide +kernel) h8 h9 h11 ?_
  exact w_goto cd_190_43 (by decide) h12
theorem b_190_46 {d : Nat} {Q : (Option Value ⊕ Nat) → mi_H → Prop} (n sl : Nat) (f : Nat → mi_C) {l1 : Nat} {l2 : Int32} {l3 : Int32} {s4 : Int64} {s5 : Int64} {s6 : Nat} {fs7 : List Value} {x10 : Int32} (h8 : f l1 = .inr (12, fs7)) (h9 : l1 < n) (h11 : fs7[66]? = some (.int x10)) (h12 : mi_W d 190 50 [some (.ref l1), some (.int l2), some (.int l3)] [.int x10, .long s4, .long s5, .ref s6] (n, sl, f) Q) : mi_W d 190 46 [some (.ref l1), some (.int l2), some (.int l3)] [.long s4, .long s5, .ref s6] (n, sl, f) Q := by
  refine w_aload_n cd_190_46 rfl ?_
  refine w_getfield cd_190_47 (show mt_f 12 539 = some (12, 66) by decide +kernel) h8 h9 h11 ?_
  exact h12
theorem b_190_50 {d : Nat} {Q : (Option Value ⊕ Nat) → mi_H → Prop} (n sl : Nat) (f : Nat → mi_C) {l1 : Nat} {l2 : Int32} {l3 : Int32} {s4 : Int32} {s5 : Int64} {s6 : Int64} {s7 : Nat} (h8 : mi_W d 141 0 (mi_en 6 [.long s6, .long s5, .long (((s4 - 1) : Int32).toInt64)]) [] (n, sl, f) (mi_Kc d 190 53 [some (.ref l1), some (.int l2), some (.int l3)] [.ref s7] Q)) : mi_W (d + 1) 190 50 [some (.ref l1), some (.int l2), some (.int l3)] [.int s4, .long s5, .long s6, .ref s7] (n, sl, f) Q := by
  refine w_iconst (v := 1) cd_190_50 (by decide) ?_
  refine w_isub cd_190_51 ?_
  refine w_i2l cd_190_52 ?_
  exact w_invokestatic cd_190_53 (show mt_m 12 268 = some (141, 4) by decide +kernel) (by decide) (rest := [.ref s7]) rfl (as := [.long s6, .long s5, .long (((s4 - 1) : Int32).toInt64)]) rfl ⟨Nat.le_of_ble_eq_true rfl, Nat.le_of_ble_eq_true rfl, Nat.le_of_ble_eq_true rfl⟩ h8
theorem b_190_56 {d : Nat} {Q : (Option Value ⊕ Nat) → mi_H → Prop} (n sl : Nat) (f : Nat → mi_C) {l1 : Nat} {l2 : Int32} {l3 : Int32} {s4 : Int32} {s5 : Nat} (h6 : ¬ s4 = (0 : Int32) → mi_W d 190 63 [some (.ref l1), some (.int l2), some (.int l3)] [.ref s5] (n, sl, f) Q) (h7 : ¬ (¬ s4 = (0 : Int32)) → mi_W d 190 59 [some (.ref l1), some (.int l2), some (.int l3)] [.ref s5] (n, sl, f) Q) : mi_W d 190 56 [some (.ref l1), some (.int l2), some (.int l3)] [.int s4, .ref s5] (n, sl, f) Q := by
  exact w_ifne cd_190_56 (by decide) h6 h7
theorem b_190_59 {d : Nat} {Q : (Option Value ⊕ Nat) → mi_H → Prop} (n sl : Nat) (f : Nat → mi_C) {l1 : Nat} {l2 : Int32} {l3 : Int32} {s4 : Nat} (h5 : mi_W d 190 64 [some (.ref l1), some (.int l2), some (.int l3)] [.int 1, .ref s4] (n, sl, f) Q) : mi_W d 190 59 [some (.ref l1), some (.int l2), some (.int l3)] [.ref s4] (n, sl, f) Q := by
  refine w_iconst (v := 1) cd_190_59 (by decide) ?_
  exact w_goto cd_190_60 (by decide) h5
theorem b_190_63 {d : Nat} {Q : (Option Value ⊕ Nat) → mi_H → Prop} (n sl : Nat) (f : Nat → mi_C) {l1 : Nat} {l2 : Int32} {l3 : Int32} {s4 : Nat} (h5 : mi_W d 190 64 [some (.ref l1), some (.int l2), some (.int l3)] [.int 0, .ref s4] (n, sl, f) Q) : mi_W d 190 63 [some (.ref l1), some (.int l2), some (.int l3)] [.ref s4] (n, sl, f) Q := by
  refine w_iconst (v := 0) cd_190_63 (by decide) ?_
  exact h5
theorem b_190_64 {d : Nat} {Q : (Option Value ⊕ Nat) → mi_H → Prop} (n sl : Nat) (f : Nat → mi_C) {l1 : Nat} {l2 : Int32} {l3 : Int32} {s4 : Int32} {s5 : Nat} {fs6 : List Value} (h7 : f s5 = .inr (12, fs6)) (h8 : s5 < n) (h9 : mi_W d 139 0 (mi_en 3 [.ref s5, .int s4, .int 2]) [] (n, sl, f) (mi_Kc d 190 65 [some (.ref l1), some (.int l2), some (.int l3)] [] Q)) : mi_W (d + 1) 190 64 [some (.ref l1), some (.int l2), some (.int l3)] [.int s4, .ref s5] (n, sl, f) Q := by
  refine w_iconst (v := 2) cd_190_64 (by decide) ?_
  exact w_invokevirtual cd_190_65 (show mt_m 12 254 = some (139, 0) by decide +kernel) (rest := []) rfl (as := [.ref s5, .int s4, .int 2]) rfl h7 (Or.inl h8) ⟨Nat.le_of_ble_eq_true rfl, Nat.le_of_ble_eq_true rfl, Nat.le_of_ble_eq_true rfl⟩ h9
theorem b_190_68 {d : Nat} {Q : (Option Value ⊕ Nat) → mi_H → Prop} (n sl : Nat) (f : Nat → mi_C) {l1 : Nat} {l2 : Int32} {l3 : Int32} {s4 : Int32} (h5 : s4 = (0 : Int32) → mi_W d 190 73 [some (.ref l1), some (.int l2), some (.int l3)] [] (n, sl, f) Q) (h6 : ¬ (s4 = (0 : Int32)) → mi_W d 190 71 [some (.ref l1), some (.int l2), some (.int l3)] [] (n, sl, f) Q) : mi_W d 190 68 [some (.ref l1), some (.int l2), some (.int l3)] [.int s4] (n, sl, f) Q := by
  exact w_ifeq cd_190_68 (by decide) h5 h6
theorem b_190_71 {d : Nat} {Q : (Option Value ⊕ Nat) → mi_H → Prop} (n sl : Nat) (f : Nat → mi_C) {l1 : Nat} {l2 : Int32} {l3 : Int32} (h4 : Q (.inl (some (.int 0))) (n, sl, f)) : mi_W d 190 71 [some (.ref l1), some (.int l2), some (.int l3)] [] (n, sl, f) Q := by
  refine w_iconst (v := 0) cd_190_71 (by decide) ?_
  exact w_ireturn_i cd_190_72 (by decide +kernel) h4
theorem b_190_73 {d : Nat} {Q : (Option Value ⊕ Nat) → mi_H → Prop} (n sl : Nat) (f : Nat → mi_C) {l1 : Nat} {l2 : Int32} {l3 : Int32} (h4 : ¬ l2 = (0 : Int32) → mi_W d 190 86 [some (.ref l1), some (.int l2), some (.int l3)] [] (n, sl, f) Q) (h5 : ¬ (¬ l2 = (0 : Int32)) → mi_W d 190 77 [some (.ref l1), some (.int l2), some (.int l3)] [] (n, sl, f) Q) : mi_W d 190 73 [some (.ref l1), some (.int l2), some (.int l3)] [] (n, sl, f) Q := by
  refine w_iload_n cd_190_73 rfl ?_
  exact w_ifne cd_190_74 (by decide) h4 h5
theorem b_190_77 {d : Nat} {Q : (Option Value ⊕ Nat) → mi_H → Prop} (n sl : Nat) (f : Nat → mi_C) {l1 : Nat} {l2 : Int32} {l3 : Int32} {fs4 : List Value} {x7 : Nat} (m9 i9 : Nat) (g9 : Nat → Int32) (h5 : f l1 = .inr (12, fs4)) (h6 : l1 < n) (h8 : fs4[67]? = some (.ref x7)) (h10 : f x7 = .inl (0, m9, .inl g9)) (h11 : x7 < n ∨ x7 = mi_SC) (h12 : mi_ix l3 m9 i9) (h13 : mi_W d 190 134 [some (.ref l1), some (.int l2), some (.int l3)] [.int (g9 i9)] (n, sl, f) Q) : mi_W d 190 77 [some (.ref l1), some (.int l2), some (.int l3)] [] (n, sl, f) Q := by
  refine w_aload_n cd_190_77 rfl ?_
  refine w_getfield cd_190_78 (show mt_f 12 193 = some (12, 67) by decide +kernel) h5 h6 h8 ?_
  refine w_iload_n cd_190_81 rfl ?_
  refine w_iaload cd_190_82 h10 h11 h12 ?_
  exact w_goto cd_190_83 (by decide) h13
theorem b_190_86 {d : Nat} {Q : (Option Value ⊕ Nat) → mi_H → Prop} (n sl : Nat) (f : Nat → mi_C) {l1 : Nat} {l2 : Int32} {l3 : Int32} (h4 : ¬ l2 = 1 → mi_W d 190 100 [some (.ref l1), some (.int l2), some (.int l3)] [] (n, sl, f) Q) (h5 : ¬ (¬ l2 = 1) → mi_W d 190 91 [some (.ref l1), some (.int l2), some (.int l3)] [] (n, sl, f) Q) : mi_W d 190 86 [some (.ref l1), some (.int l2), some (.int l3)] [] (n, sl, f) Q := by
  refine w_iload_n cd_190_86 rfl ?_
  refine w_iconst (v := 1) cd_190_87 (by decide) ?_
  exact w_if_icmpne cd_190_88 (by decide) h4 h5
theorem b_190_91 {d : Nat} {Q : (Option Value ⊕ Nat) → mi_H → Prop} (n sl : Nat) (f : Nat → mi_C) {l1 : Nat} {l2 : Int32} {l3 : Int32} {fs4 : List Value} {x7 : Nat} (m9 i9 : Nat) (g9 : Nat → Int32) (h5 : f l1 = .inr (12, fs4)) (h6 : l1 < n) (h8 : fs4[68]? = some (.ref x7)) (h10 : f x7 = .inl (0, m9, .inl g9)) (h11 : x7 < n ∨ x7 = mi_SC) (h12 : mi_ix l3 m9 i9) (h13 : mi_W d 190 134 [some (.ref l1), some (.int l2), some (.int l3)] [.int (g9 i9)] (n, sl, f) Q) : mi_W d 190 91 [some (.ref l1), some (.int l2), some (.int l3)] [] (n, sl, f) Q := by
  refine w_aload_n cd_190_91 rfl ?_
  refine w_getfield cd_190_92 (show mt_f 12 196 = some (12, 68) by decide +kernel) h5 h6 h8 ?_
  refine w_iload_n cd_190_95 rfl ?_
  refine w_iaload cd_190_96 h10 h11 h12 ?_
  exact w_goto cd_190_97 (by decide) h13
theorem b_190_100 {d : Nat} {Q : (Option Value ⊕ Nat) → mi_H → Prop} (n sl : Nat) (f : Nat → mi_C) {l1 : Nat} {l2 : Int32} {l3 : Int32} (h4 : ¬ l2 = 2 → mi_W d 190 114 [some (.ref l1), some (.int l2), some (.int l3)] [] (n, sl, f) Q) (h5 : ¬ (¬ l2 = 2) → mi_W d 190 105 [some (.ref l1), some (.int l2), some (.int l3)] [] (n, sl, f) Q) : mi_W d 190 100 [some (.ref l1), some (.int l2), some (.int l3)] [] (n, sl, f) Q := by
  refine w_iload_n cd_190_100 rfl ?_
  refine w_iconst (v := 2) cd_190_101 (by decide) ?_
  exact w_if_icmpne cd_190_102 (by decide) h4 h5
theorem b_190_105 {d : Nat} {Q : (Option Value ⊕ Nat) → mi_H → Prop} (n sl : Nat) (f : Nat → mi_C) {l1 : Nat} {l2 : Int32} {l3 : Int32} {fs4 : List Value} {x7 : Nat} (m9 i9 : Nat) (g9 : Nat → Int32) (h5 : f l1 = .inr (12, fs4)) (h6 : l1 < n) (h8 : fs4[69]? = some (.ref x7)) (h10 : f x7 = .inl (0, m9, .inl g9)) (h11 : x7 < n ∨ x7 = mi_SC) (h12 : mi_ix l3 m9 i9) (h13 : mi_W d 190 134 [some (.ref l1), some (.int l2), some (.int l3)] [.int (g9 i9)] (n, sl, f) Q) : mi_W d 190 105 [some (.ref l1), some (.int l2), some (.int l3)] [] (n, sl, f) Q := by
  refine w_aload_n cd_190_105 rfl ?_
  refine w_getfield cd_190_106 (show mt_f 12 199 = some (12, 69) by decide +kernel) h5 h6 h8 ?_
  refine w_iload_n cd_190_109 rfl ?_
  refine w_iaload cd_190_110 h10 h11 h12 ?_
  exact w_goto cd_190_111 (by decide) h13
theorem b_190_114 {d : Nat} {Q : (Option Value ⊕ Nat) → mi_H → Prop} (n sl : Nat) (f : Nat → mi_C) {l1 : Nat} {l2 : Int32} {l3 : Int32} (h4 : ¬ l2 = 3 → mi_W d 190 128 [some (.ref l1), some (.int l2), some (.int l3)] [] (n, sl, f) Q) (h5 : ¬ (¬ l2 = 3) → mi_W d 190 119 [some (.ref l1), some (.int l2), some (.int l3)] [] (n, sl, f) Q) : mi_W d 190 114 [some (.ref l1), some (.int l2), some (.int l3)] [] (n, sl, f) Q := by
  refine w_iload_n cd_190_114 rfl ?_
  refine w_iconst (v := 3) cd_190_115 (by decide) ?_
  exact w_if_icmpne cd_190_116 (by decide) h4 h5
theorem b_190_119 {d : Nat} {Q : (Option Value ⊕ Nat) → mi_H → Prop} (n sl : Nat) (f : Nat → mi_C) {l1 : Nat} {l2 : Int32} {l3 : Int32} {fs4 : List Value} {x7 : Nat} (m9 i9 : Nat) (g9 : Nat → Int32) (h5 : f l1 = .inr (12, fs4)) (h6 : l1 < n) (h8 : fs4[70]? = some (.ref x7)) (h10 : f x7 = .inl (0, m9, .inl g9)) (h11 : x7 < n ∨ x7 = mi_SC) (h12 : mi_ix l3 m9 i9) (h13 : mi_W d 190 134 [some (.ref l1), some (.int l2), some (.int l3)] [.int (g9 i9)] (n, sl, f) Q) : mi_W d 190 119 [some (.ref l1), some (.int l2), some (.int l3)] [] (n, sl, f) Q := by
  refine w_aload_n cd_190_119 rfl ?_
  refine w_getfield cd_190_120 (show mt_f 12 202 = some (12, 70) by decide +kernel) h5 h6 h8 ?_
  refine w_iload_n cd_190_123 rfl ?_
  refine w_iaload cd_190_124 h10 h11 h12 ?_
  exact w_goto cd_190_125 (by decide) h13
theorem b_190_128 {d : Nat} {Q : (Option Value ⊕ Nat) → mi_H → Prop} (n sl : Nat) (f : Nat → mi_C) {l1 : Nat} {l2 : Int32} {l3 : Int32} {fs4 : List Value} {x7 : Nat} (m9 i9 : Nat) (g9 : Nat → Int32) (h5 : f l1 = .inr (12, fs4)) (h6 : l1 < n) (h8 : fs4[71]? = some (.ref x7)) (h10 : f x7 = .inl (0, m9, .inl g9)) (h11 : x7 < n ∨ x7 = mi_SC) (h12 : mi_ix l3 m9 i9) (h13 : mi_W d 190 134 [some (.ref l1), some (.int l2), some (.int l3)] [.int (g9 i9)] (n, sl, f) Q) : mi_W d 190 128 [some (.ref l1), some (.int l2), some (.int l3)] [] (n, sl, f) Q := by
  refine w_aload_n cd_190_128 rfl ?_
  refine w_getfield cd_190_129 (show mt_f 12 205 = some (12, 71) by decide +kernel) h5 h6 h8 ?_
  refine w_iload_n cd_190_132 rfl ?_
  refine w_iaload cd_190_133 h10 h11 h12 ?_
  exact h13
theorem b_190_134 {d : Nat} {Q : (Option Value ⊕ Nat) → mi_H → Prop} (n sl : Nat) (f : Nat → mi_C) {l1 : Nat} {l2 : Int32} {l3 : Int32} {s4 : Int32} (h5 : Q (.inl (some (.int s4))) (n, sl, f)) : mi_W d 190 134 [some (.ref l1), some (.int l2), some (.int l3)] [.int s4] (n, sl, f) Q := by
  exact w_ireturn_i cd_190_134 (by decide +kernel) h5
/-! MarloweHostModel.paid(I)J -/
theorem cd_191_0 : mt_cd 191 0 = some (.aload_n 0) := by decide +kernel
theorem cd_191_1 : mt_cd 191 1 = some (.iconst 0) := by decide +kernel
theorem cd_191_2 : mt_cd 191 2 = some (.putfield 248) := by decide +kernel
theorem cd_191_5 : mt_cd 191 5 = some (.aload_n 0) := by decide +kernel
theorem cd_191_6 : mt_cd 191 6 = some (.iload_n 1) := by decide +kernel
theorem cd_191_7 : mt_cd 191 7 = some (.i2l) := by decide +kernel
theorem cd_191_8 : mt_cd 191 8 = some (.lconst 0) := by decide +kernel
theorem cd_191_9 : mt_cd 191 9 = some (.aload_n 0) := by decide +kernel
theorem cd_191_10 : mt_cd 191 10 = some (.getfield 539) := by decide +kernel
theorem cd_191_13 : mt_cd 191 13 = some (.iconst 1) := by decide +kernel
theorem cd_191_14 : mt_cd 191 14 = some (.isub) := by decide +kernel
theorem cd_191_15 : mt_cd 191 15 = some (.i2l) := by decide +kernel
theorem cd_191_16 : mt_cd 191 16 = some (.invokestatic 268) := by decide +kernel
theorem cd_191_19 : mt_cd 191 19 = some (.ifCond .ne 7) := by decide +kernel
theorem cd_191_22 : mt_cd 191 22 = some (.iconst 1) := by decide +kernel
theorem cd_191_23 : mt_cd 191 23 = some (.goto 4) := by decide +kernel
theorem cd_191_26 : mt_cd 191 26 = some (.iconst 0) := by decide +kernel
theorem cd_191_27 : mt_cd 191 27 = some (.iconst 1) := by decide +kernel
theorem cd_191_28 : mt_cd 191 28 = some (.invokevirtual 254) := by decide +kernel
theorem cd_191_31 : mt_cd 191 31 = some (.ifCond .eq 7) := by decide +kernel
theorem cd_191_34 : mt_cd 191 34 = some (.lconst 0) := by decide +kernel
theorem cd_191_35 : mt_cd 191 35 = some (.goto 9) := by decide +kernel
theorem cd_191_38 : mt_cd 191 38 = some (.aload_n 0) := by decide +kernel
theorem cd_191_39 : mt_cd 191 39 = some (.getfield 208) := by decide +kernel
theorem cd_191_42 : mt_cd 191 42 = some (.iload_n 1) := by decide +kernel
theorem cd_191_43 : mt_cd 191 43 = some (.laload) := by decide +kernel
theorem cd_191_44 : mt_cd 191 44 = some (.lreturn) := by decide +kernel
theorem b_191_0 {d : Nat} {Q : (Option Value ⊕ Nat) → mi_H → Prop} (n sl : Nat) (f : Nat → mi_C) {l1 : Nat} {l2 : Int32} {fs3 : List Value} {fs7 : List Value} {x10 : Int32} (h4 : f l1 = .inr (12, fs3)) (h5 : l1 < n) (h6 : 0 < fs3.length) (h8 : (va_up f l1 (.inr (12, fs3.set 0 (.int 0)))) l1 = .inr (12, fs7)) (h9 : l1 < n) (h11 : fs7[66]? = some (.int x10)) (h12 : mi_W d 141 0 (mi_en 6 [.long ((l2 : Int32).toInt64), .long 0, .long (((x10 - 1) : Int32).toInt64)]) [] (n, sl, (va_up f l1 (.inr (12, fs3.set 0 (.int 0))))) (mi_Kc d 191 16 [some (.ref l1), some (.int l2)] [.ref l1] Q)) : mi_W (d + 1) 191 0 [some (.ref l1), some (.int l2)] [] (n, sl, f) Q := by
  refine w_aload_n cd_191_0 rfl ?_
  refine w_iconst (v := 0) cd_191_1 (by decide) ?_
  refine w_putfield (w := .int 0) cd_191_2 (show mt_f 12 248 = some (12, 0) by decide +kernel) h4 h5 ⟨h6, rfl, Or.inl (by decide)⟩ ?_
  refine w_aload_n cd_191_5 rfl ?_
  refine w_iload_n cd_191_6 rfl ?_
  refine w_i2l cd_191_7 ?_
  refine w_lconst (lv := 0) cd_191_8 (by decide) ?_
  refine w_aload_n cd_191_9 rfl ?_
  refine w_getfield cd_191_10 (show mt_f 12 539 = some (12, 66) by decide +kernel) h8 h9 h11 ?_
  refine w_iconst (v := 1) cd_191_13 (by decide) ?_
  refine w_isub cd_191_14 ?_
  refine w_i2l cd_191_15 ?_
  exact w_invokestatic cd_191_16 (show mt_m 12 268 = some (141, 4) by decide +kernel) (by decide) (rest := [.ref l1]) rfl (as := [.long ((l2 : Int32).toInt64), .long 0, .long (((x10 - 1) : Int32).toInt64)]) rfl ⟨Nat.le_of_ble_eq_true rfl, Nat.le_of_ble_eq_true rfl, Nat.le_of_ble_eq_true rfl⟩ h12
theorem b_191_19 {d : Nat} {Q : (Option Value ⊕ Nat) → mi_H → Prop} (n sl : Nat) (f : Nat → mi_C) {l1 : Nat} {l2 : Int32} {s3 : Int32} {s4 : Nat} (h5 : ¬ s3 = (0 : Int32) → mi_W d 191 26 [some (.ref l1), some (.int l2)] [.ref s4] (n, sl, f) Q) (h6 : ¬ (¬ s3 = (0 : Int32)) → mi_W d 191 22 [some (.ref l1), some (.int l2)] [.ref s4] (n, sl, f) Q) : mi_W d 191 19 [some (.ref l1), some (.int l2)] [.int s3, .ref s4] (n, sl, f) Q := by
  exact w_ifne cd_191_19 (by decide) h5 h6
theorem b_191_22 {d : Nat} {Q : (Option Value ⊕ Nat) → mi_H → Prop} (n sl : Nat) (f : Nat → mi_C) {l1 : Nat} {l2 : Int32} {s3 : Nat} (h4 : mi_W d 191 27 [some (.ref l1), some (.int l2)] [.int 1, .ref s3] (n, sl, f) Q) : mi_W d 191 22 [some (.ref l1), some (.int l2)] [.ref s3] (n, sl, f) Q := by
  refine w_iconst (v := 1) cd_191_22 (by decide) ?_
  exact w_goto cd_191_23 (by decide) h4
theorem b_191_26 {d : Nat} {Q : (Option Value ⊕ Nat) → mi_H → Prop} (n sl : Nat) (f : Nat → mi_C) {l1 : Nat} {l2 : Int32} {s3 : Nat} (h4 : mi_W d 191 27 [some (.ref l1), some (.int l2)] [.int 0, .ref s3] (n, sl, f) Q) : mi_W d 191 26 [some (.ref l1), some (.int l2)] [.ref s3] (n, sl, f) Q := by
  refine w_iconst (v := 0) cd_191_26 (by decide) ?_
  exact h4
theorem b_191_27 {d : Nat} {Q : (Option Value ⊕ Nat) → mi_H → Prop} (n sl : Nat) (f : Nat → mi_C) {l1 : Nat} {l2 : Int32} {s3 : Int32} {s4 : Nat} {fs5 : List Value} (h6 : f s4 = .inr (12, fs5)) (h7 : s4 < n) (h8 : mi_W d 139 0 (mi_en 3 [.ref s4, .int s3, .int 1]) [] (n, sl, f) (mi_Kc d 191 28 [some (.ref l1), some (.int l2)] [] Q)) : mi_W (d + 1) 191 27 [some (.ref l1), some (.int l2)] [.int s3, .ref s4] (n, sl, f) Q := by
  refine w_iconst (v := 1) cd_191_27 (by decide) ?_
  exact w_invokevirtual cd_191_28 (show mt_m 12 254 = some (139, 0) by decide +kernel) (rest := []) rfl (as := [.ref s4, .int s3, .int 1]) rfl h6 (Or.inl h7) ⟨Nat.le_of_ble_eq_true rfl, Nat.le_of_ble_eq_true rfl, Nat.le_of_ble_eq_true rfl⟩ h8
theorem b_191_31 {d : Nat} {Q : (Option Value ⊕ Nat) → mi_H → Prop} (n sl : Nat) (f : Nat → mi_C) {l1 : Nat} {l2 : Int32} {s3 : Int32} (h4 : s3 = (0 : Int32) → mi_W d 191 38 [some (.ref l1), some (.int l2)] [] (n, sl, f) Q) (h5 : ¬ (s3 = (0 : Int32)) → mi_W d 191 34 [some (.ref l1), some (.int l2)] [] (n, sl, f) Q) : mi_W d 191 31 [some (.ref l1), some (.int l2)] [.int s3] (n, sl, f) Q := by
  exact w_ifeq cd_191_31 (by decide) h4 h5
theorem b_191_34 {d : Nat} {Q : (Option Value ⊕ Nat) → mi_H → Prop} (n sl : Nat) (f : Nat → mi_C) {l1 : Nat} {l2 : Int32} (h3 : mi_W d 191 44 [some (.ref l1), some (.int l2)] [.long 0] (n, sl, f) Q) : mi_W d 191 34 [some (.ref l1), some (.int l2)] [] (n, sl, f) Q := by
  refine w_lconst (lv := 0) cd_191_34 (by decide) ?_
  exact w_goto cd_191_35 (by decide) h3
theorem b_191_38 {d : Nat} {Q : (Option Value ⊕ Nat) → mi_H → Prop} (n sl : Nat) (f : Nat → mi_C) {l1 : Nat} {l2 : Int32} {fs3 : List Value} {x6 : Nat} (m8 i8 : Nat) (g8 : Nat → Int64) (h4 : f l1 = .inr (12, fs3)) (h5 : l1 < n) (h7 : fs3[72]? = some (.ref x6)) (h9 : f x6 = .inl (3, m8, .inr (.inl g8))) (h10 : x6 < n) (h11 : mi_ix l2 m8 i8) (h12 : mi_W d 191 44 [some (.ref l1), some (.int l2)] [.long (g8 i8)] (n, sl, f) Q) : mi_W d 191 38 [some (.ref l1), some (.int l2)] [] (n, sl, f) Q := by
  refine w_aload_n cd_191_38 rfl ?_
  refine w_getfield cd_191_39 (show mt_f 12 208 = some (12, 72) by decide +kernel) h4 h5 h7 ?_
  refine w_iload_n cd_191_42 rfl ?_
  refine w_laload cd_191_43 h9 h10 h11 ?_
  exact h12
theorem b_191_44 {d : Nat} {Q : (Option Value ⊕ Nat) → mi_H → Prop} (n sl : Nat) (f : Nat → mi_C) {l1 : Nat} {l2 : Int32} {s3 : Int64} (h4 : Q (.inl (some (.long s3))) (n, sl, f)) : mi_W d 191 44 [some (.ref l1), some (.int l2)] [.long s3] (n, sl, f) Q := by
  exact w_lreturn cd_191_44 (by decide +kernel) h4
/-! MarloweHostModel.state(III)J -/
theorem cd_192_0 : mt_cd 192 0 = some (.aload_n 0) := by decide +kernel
theorem cd_192_1 : mt_cd 192 1 = some (.iconst 0) := by decide +kernel
theorem cd_192_2 : mt_cd 192 2 = some (.putfield 248) := by decide +kernel
theorem cd_192_5 : mt_cd 192 5 = some (.aload_n 0) := by decide +kernel
theorem cd_192_6 : mt_cd 192 6 = some (.iload_n 1) := by decide +kernel
theorem cd_192_7 : mt_cd 192 7 = some (.i2l) := by decide +kernel
theorem cd_192_8 : mt_cd 192 8 = some (.lconst 0) := by decide +kernel
theorem cd_192_9 : mt_cd 192 9 = some (.ldc2_w 552) := by decide +kernel
theorem cd_192_12 : mt_cd 192 12 = some (.invokestatic 268) := by decide +kernel
theorem cd_192_15 : mt_cd 192 15 = some (.ifCond .eq 27) := by decide +kernel
theorem cd_192_18 : mt_cd 192 18 = some (.iload_n 2) := by decide +kernel
theorem cd_192_19 : mt_cd 192 19 = some (.i2l) := by decide +kernel
theorem cd_192_20 : mt_cd 192 20 = some (.lconst 0) := by decide +kernel
theorem cd_192_21 : mt_cd 192 21 = some (.ldc2_w 542) := by decide +kernel
theorem cd_192_24 : mt_cd 192 24 = some (.invokestatic 268) := by decide +kernel
theorem cd_192_27 : mt_cd 192 27 = some (.ifCond .eq 15) := by decide +kernel
theorem cd_192_30 : mt_cd 192 30 = some (.iload_n 3) := by decide +kernel
theorem cd_192_31 : mt_cd 192 31 = some (.i2l) := by decide +kernel
theorem cd_192_32 : mt_cd 192 32 = some (.lconst 0) := by decide +kernel
theorem cd_192_33 : mt_cd 192 33 = some (.ldc2_w 544) := by decide +kernel
theorem cd_192_36 : mt_cd 192 36 = some (.invokestatic 268) := by decide +kernel
theorem cd_192_39 : mt_cd 192 39 = some (.ifCond .ne 7) := by decide +kernel
theorem cd_192_42 : mt_cd 192 42 = some (.iconst 1) := by decide +kernel
theorem cd_192_43 : mt_cd 192 43 = some (.goto 4) := by decide +kernel
theorem cd_192_46 : mt_cd 192 46 = some (.iconst 0) := by decide +kernel
theorem cd_192_47 : mt_cd 192 47 = some (.iconst 1) := by decide +kernel
theorem cd_192_48 : mt_cd 192 48 = some (.invokevirtual 254) := by decide +kernel
theorem cd_192_51 : mt_cd 192 51 = some (.ifCond .ne 28) := by decide +kernel
theorem cd_192_54 : mt_cd 192 54 = some (.aload_n 0) := by decide +kernel
theorem cd_192_55 : mt_cd 192 55 = some (.iload_n 1) := by decide +kernel
theorem cd_192_56 : mt_cd 192 56 = some (.iconst 1) := by decide +kernel
theorem cd_192_57 : mt_cd 192 57 = some (.if_icmp .eq 14) := by decide +kernel
theorem cd_192_60 : mt_cd 192 60 = some (.aload_n 0) := by decide +kernel
theorem cd_192_61 : mt_cd 192 61 = some (.getfield 13) := by decide +kernel
theorem cd_192_64 : mt_cd 192 64 = some (.ifCond .ge 7) := by decide +kernel
theorem cd_192_67 : mt_cd 192 67 = some (.iconst 1) := by decide +kernel
theorem cd_192_68 : mt_cd 192 68 = some (.goto 4) := by decide +kernel
theorem cd_192_71 : mt_cd 192 71 = some (.iconst 0) := by decide +kernel
theorem cd_192_72 : mt_cd 192 72 = some (.iconst 2) := by decide +kernel
theorem cd_192_73 : mt_cd 192 73 = some (.invokevirtual 254) := by decide +kernel
theorem cd_192_76 : mt_cd 192 76 = some (.ifCond .eq 5) := by decide +kernel
theorem cd_192_79 : mt_cd 192 79 = some (.lconst 0) := by decide +kernel
theorem cd_192_80 : mt_cd 192 80 = some (.lreturn) := by decide +kernel
theorem cd_192_81 : mt_cd 192 81 = some (.iload_n 1) := by decide +kernel
theorem cd_192_82 : mt_cd 192 82 = some (.tableswitch 107 0 3 #[30, 44, 55, 81]) := by decide +kernel
theorem cd_192_112 : mt_cd 192 112 = some (.aload_n 0) := by decide +kernel
theorem cd_192_113 : mt_cd 192 113 = some (.getfield 147) := by decide +kernel
theorem cd_192_116 : mt_cd 192 116 = some (.getfield 448) := by decide +kernel
theorem cd_192_119 : mt_cd 192 119 = some (.iconst 4) := by decide +kernel
theorem cd_192_120 : mt_cd 192 120 = some (.iload_n 2) := by decide +kernel
theorem cd_192_121 : mt_cd 192 121 = some (.imul) := by decide +kernel
theorem cd_192_122 : mt_cd 192 122 = some (.iload_n 3) := by decide +kernel
theorem cd_192_123 : mt_cd 192 123 = some (.iadd) := by decide +kernel
theorem cd_192_124 : mt_cd 192 124 = some (.laload) := by decide +kernel
theorem cd_192_125 : mt_cd 192 125 = some (.lreturn) := by decide +kernel
theorem cd_192_126 : mt_cd 192 126 = some (.aload_n 0) := by decide +kernel
theorem cd_192_127 : mt_cd 192 127 = some (.getfield 175) := by decide +kernel
theorem cd_192_130 : mt_cd 192 130 = some (.iconst 4) := by decide +kernel
theorem cd_192_131 : mt_cd 192 131 = some (.iload_n 2) := by decide +kernel
theorem cd_192_132 : mt_cd 192 132 = some (.imul) := by decide +kernel
theorem cd_192_133 : mt_cd 192 133 = some (.iload_n 3) := by decide +kernel
theorem cd_192_134 : mt_cd 192 134 = some (.iadd) := by decide +kernel
theorem cd_192_135 : mt_cd 192 135 = some (.laload) := by decide +kernel
theorem cd_192_136 : mt_cd 192 136 = some (.lreturn) := by decide +kernel
theorem cd_192_137 : mt_cd 192 137 = some (.aload_n 0) := by decide +kernel
theorem cd_192_138 : mt_cd 192 138 = some (.getfield 147) := by decide +kernel
theorem cd_192_141 : mt_cd 192 141 = some (.getfield 459) := by decide +kernel
theorem cd_192_144 : mt_cd 192 144 = some (.iload_n 2) := by decide +kernel
theorem cd_192_145 : mt_cd 192 145 = some (.baload) := by decide +kernel
theorem cd_192_146 : mt_cd 192 146 = some (.ifCond .eq 15) := by decide +kernel
theorem cd_192_149 : mt_cd 192 149 = some (.aload_n 0) := by decide +kernel
theorem cd_192_150 : mt_cd 192 150 = some (.getfield 147) := by decide +kernel
theorem cd_192_153 : mt_cd 192 153 = some (.getfield 463) := by decide +kernel
theorem cd_192_156 : mt_cd 192 156 = some (.iload_n 2) := by decide +kernel
theorem cd_192_157 : mt_cd 192 157 = some (.laload) := by decide +kernel
theorem cd_192_158 : mt_cd 192 158 = some (.goto 4) := by decide +kernel
theorem cd_192_161 : mt_cd 192 161 = some (.lconst 0) := by decide +kernel
theorem cd_192_162 : mt_cd 192 162 = some (.lreturn) := by decide +kernel
theorem cd_192_163 : mt_cd 192 163 = some (.aload_n 0) := by decide +kernel
theorem cd_192_164 : mt_cd 192 164 = some (.getfield 147) := by decide +kernel
theorem cd_192_167 : mt_cd 192 167 = some (.getfield 465) := by decide +kernel
theorem cd_192_170 : mt_cd 192 170 = some (.iload_n 2) := by decide +kernel
theorem cd_192_171 : mt_cd 192 171 = some (.baload) := by decide +kernel
theorem cd_192_172 : mt_cd 192 172 = some (.ifCond .eq 15) := by decide +kernel
theorem cd_192_175 : mt_cd 192 175 = some (.aload_n 0) := by decide +kernel
theorem cd_192_176 : mt_cd 192 176 = some (.getfield 147) := by decide +kernel
theorem cd_192_179 : mt_cd 192 179 = some (.getfield 468) := by decide +kernel
theorem cd_192_182 : mt_cd 192 182 = some (.iload_n 2) := by decide +kernel
theorem cd_192_183 : mt_cd 192 183 = some (.laload) := by decide +kernel
theorem cd_192_184 : mt_cd 192 184 = some (.goto 4) := by decide +kernel
theorem cd_192_187 : mt_cd 192 187 = some (.lconst 0) := by decide +kernel
theorem cd_192_188 : mt_cd 192 188 = some (.lreturn) := by decide +kernel
theorem cd_192_189 : mt_cd 192 189 = some (.aload_n 0) := by decide +kernel
theorem cd_192_190 : mt_cd 192 190 = some (.getfield 147) := by decide +kernel
theorem cd_192_193 : mt_cd 192 193 = some (.getfield 516) := by decide +kernel
theorem cd_192_196 : mt_cd 192 196 = some (.lreturn) := by decide +kernel
theorem b_192_0 {d : Nat} {Q : (Option Value ⊕ Nat) → mi_H → Prop} (n sl : Nat) (f : Nat → mi_C) {l1 : Nat} {l2 : Int32} {l3 : Int32} {l4 : Int32} {fs5 : List Value} (h6 : f l1 = .inr (12, fs5)) (h7 : l1 < n) (h8 : 0 < fs5.length) (h9 : mi_W d 141 0 (mi_en 6 [.long ((l2 : Int32).toInt64), .long 0, .long 4]) [] (n, sl, (va_up f l1 (.inr (12, fs5.set 0 (.int 0))))) (mi_Kc d 192 12 [some (.ref l1), some (.int l2), some (.int l3), some (.int l4)] [.ref l1] Q)) : mi_W (d + 1) 192 0 [some (.ref l1), some (.int l2), some (.int l3), some (.int l4)] [] (n, sl, f) Q := by
  refine w_aload_n cd_192_0 rfl ?_
  refine w_iconst (v := 0) cd_192_1 (by decide) ?_
  refine w_putfield (w := .int 0) cd_192_2 (show mt_f 12 248 = some (12, 0) by decide +kernel) h6 h7 ⟨h8, rfl, Or.inl (by decide)⟩ ?_
  refine w_aload_n cd_192_5 rfl ?_
  refine w_iload_n cd_192_6 rfl ?_
  refine w_i2l cd_192_7 ?_
  refine w_lconst (lv := 0) cd_192_8 (by decide) ?_
  refine w_ldc2_w (lv := 4) cd_192_9 (by decide +kernel) ?_
  exact w_invokestatic cd_192_12 (show mt_m 12 268 = some (141, 4) by decide +kernel) (by decide) (rest := [.ref l1]) rfl (as := [.long ((l2 : Int32).toInt64), .long 0, .long 4]) rfl ⟨Nat.le_of_ble_eq_true rfl, Nat.le_of_ble_eq_true rfl, Nat.le_of_ble_eq_true rfl⟩ h9
theorem b_192_15 {d : Nat} {Q : (Option Value ⊕ Nat) → mi_H → Prop} (n sl : Nat) (f : Nat → mi_C) {l1 : Nat} {l2 : Int32} {l3 : Int32} {l4 : Int32} {s5 : Int32} {s6 : Nat} (h7 : s5 = (0 : Int32) → mi_W d 192 42 [some (.ref l1), some (.int l2), some (.int l3), some (.int l4)] [.ref s6] (n, sl, f) Q) (h8 : ¬ (s5 = (0 : Int32)) → mi_W d 192 18 [some (.ref l1), some (.int l2), some (.int l3), some (.int l4)] [.ref s6] (n, sl, f) Q) : mi_W d 192 15 [some (.ref l1), some (.int l2), some (.int l3), some (.int l4)] [.int s5, .ref s6] (n, sl, f) Q := by
  exact w_ifeq cd_192_15 (by decide) h7 h8
theorem b_192_18 {d : Nat} {Q : (Option Value ⊕ Nat) → mi_H → Prop} (n sl : Nat) (f : Nat → mi_C) {l1 : Nat} {l2 : Int32} {l3 : Int32} {l4 : Int32} {s5 : Nat} (h6 : mi_W d 141 0 (mi_en 6 [.long ((l3 : Int32).toInt64), .long 0, .long 7]) [] (n, sl, f) (mi_Kc d 192 24 [some (.ref l1), some (.int l2), some (.int l3), some (.int l4)] [.ref s5] Q)) : mi_W (d + 1) 192 18 [some (.ref l1), some (.int l2), some (.int l3), some (.int l4)] [.ref s5] (n, sl, f) Q := by
  refine w_iload_n cd_192_18 rfl ?_
  refine w_i2l cd_192_19 ?_
  refine w_lconst (lv := 0) cd_192_20 (by decide) ?_
  refine w_ldc2_w (lv := 7) cd_192_21 (by decide +kernel) ?_
  exact w_invokestatic cd_192_24 (show mt_m 12 268 = some (141, 4) by decide +kernel) (by decide) (rest := [.ref s5]) rfl (as := [.long ((l3 : Int32).toInt64), .long 0, .long 7]) rfl ⟨Nat.le_of_ble_eq_true rfl, Nat.le_of_ble_eq_true rfl, Nat.le_of_ble_eq_true rfl⟩ h6
theorem b_192_27 {d : Nat} {Q : (Option Value ⊕ Nat) → mi_H → Prop} (n sl : Nat) (f : Nat → mi_C) {l1 : Nat} {l2 : Int32} {l3 : Int32} {l4 : Int32} {s5 : Int32} {s6 : Nat} (h7 : s5 = (0 : Int32) → mi_W d 192 42 [some (.ref l1), some (.int l2), some (.int l3), some (.int l4)] [.ref s6] (n, sl, f) Q) (h8 : ¬ (s5 = (0 : Int32)) → mi_W d 192 30 [some (.ref l1), some (.int l2), some (.int l3), some (.int l4)] [.ref s6] (n, sl, f) Q) : mi_W d 192 27 [some (.ref l1), some (.int l2), some (.int l3), some (.int l4)] [.int s5, .ref s6] (n, sl, f) Q := by
  exact w_ifeq cd_192_27 (by decide) h7 h8
theorem b_192_30 {d : Nat} {Q : (Option Value ⊕ Nat) → mi_H → Prop} (n sl : Nat) (f : Nat → mi_C) {l1 : Nat} {l2 : Int32} {l3 : Int32} {l4 : Int32} {s5 : Nat} (h6 : mi_W d 141 0 (mi_en 6 [.long ((l4 : Int32).toInt64), .long 0, .long 3]) [] (n, sl, f) (mi_Kc d 192 36 [some (.ref l1), some (.int l2), some (.int l3), some (.int l4)] [.ref s5] Q)) : mi_W (d + 1) 192 30 [some (.ref l1), some (.int l2), some (.int l3), some (.int l4)] [.ref s5] (n, sl, f) Q := by
  refine w_iload_n cd_192_30 rfl ?_
  refine w_i2l cd_192_31 ?_
  refine w_lconst (lv := 0) cd_192_32 (by decide) ?_
  refine w_ldc2_w (lv := 3) cd_192_33 (by decide +kernel) ?_
  exact w_invokestatic cd_192_36 (show mt_m 12 268 = some (141, 4) by decide +kernel) (by decide) (rest := [.ref s5]) rfl (as := [.long ((l4 : Int32).toInt64), .long 0, .long 3]) rfl ⟨Nat.le_of_ble_eq_true rfl, Nat.le_of_ble_eq_true rfl, Nat.le_of_ble_eq_true rfl⟩ h6
theorem b_192_39 {d : Nat} {Q : (Option Value ⊕ Nat) → mi_H → Prop} (n sl : Nat) (f : Nat → mi_C) {l1 : Nat} {l2 : Int32} {l3 : Int32} {l4 : Int32} {s5 : Int32} {s6 : Nat} (h7 : ¬ s5 = (0 : Int32) → mi_W d 192 46 [some (.ref l1), some (.int l2), some (.int l3), some (.int l4)] [.ref s6] (n, sl, f) Q) (h8 : ¬ (¬ s5 = (0 : Int32)) → mi_W d 192 42 [some (.ref l1), some (.int l2), some (.int l3), some (.int l4)] [.ref s6] (n, sl, f) Q) : mi_W d 192 39 [some (.ref l1), some (.int l2), some (.int l3), some (.int l4)] [.int s5, .ref s6] (n, sl, f) Q := by
  exact w_ifne cd_192_39 (by decide) h7 h8
theorem b_192_42 {d : Nat} {Q : (Option Value ⊕ Nat) → mi_H → Prop} (n sl : Nat) (f : Nat → mi_C) {l1 : Nat} {l2 : Int32} {l3 : Int32} {l4 : Int32} {s5 : Nat} (h6 : mi_W d 192 47 [some (.ref l1), some (.int l2), some (.int l3), some (.int l4)] [.int 1, .ref s5] (n, sl, f) Q) : mi_W d 192 42 [some (.ref l1), some (.int l2), some (.int l3), some (.int l4)] [.ref s5] (n, sl, f) Q := by
  refine w_iconst (v := 1) cd_192_42 (by decide) ?_
  exact w_goto cd_192_43 (by decide) h6
theorem b_192_46 {d : Nat} {Q : (Option Value ⊕ Nat) → mi_H → Prop} (n sl : Nat) (f : Nat → mi_C) {l1 : Nat} {l2 : Int32} {l3 : Int32} {l4 : Int32} {s5 : Nat} (h6 : mi_W d 192 47 [some (.ref l1), some (.int l2), some (.int l3), some (.int l4)] [.int 0, .ref s5] (n, sl, f) Q) : mi_W d 192 46 [some (.ref l1), some (.int l2), some (.int l3), some (.int l4)] [.ref s5] (n, sl, f) Q := by
  refine w_iconst (v := 0) cd_192_46 (by decide) ?_
  exact h6
theorem b_192_47 {d : Nat} {Q : (Option Value ⊕ Nat) → mi_H → Prop} (n sl : Nat) (f : Nat → mi_C) {l1 : Nat} {l2 : Int32} {l3 : Int32} {l4 : Int32} {s5 : Int32} {s6 : Nat} {fs7 : List Value} (h8 : f s6 = .inr (12, fs7)) (h9 : s6 < n) (h10 : mi_W d 139 0 (mi_en 3 [.ref s6, .int s5, .int 1]) [] (n, sl, f) (mi_Kc d 192 48 [some (.ref l1), some (.int l2), some (.int l3), some (.int l4)] [] Q)) : mi_W (d + 1) 192 47 [some (.ref l1), some (.int l2), some (.int l3), some (.int l4)] [.int s5, .ref s6] (n, sl, f) Q := by
  refine w_iconst (v := 1) cd_192_47 (by decide) ?_
  exact w_invokevirtual cd_192_48 (show mt_m 12 254 = some (139, 0) by decide +kernel) (rest := []) rfl (as := [.ref s6, .int s5, .int 1]) rfl h8 (Or.inl h9) ⟨Nat.le_of_ble_eq_true rfl, Nat.le_of_ble_eq_true rfl, Nat.le_of_ble_eq_true rfl⟩ h10
theorem b_192_51 {d : Nat} {Q : (Option Value ⊕ Nat) → mi_H → Prop} (n sl : Nat) (f : Nat → mi_C) {l1 : Nat} {l2 : Int32} {l3 : Int32} {l4 : Int32} {s5 : Int32} (h6 : ¬ s5 = (0 : Int32) → mi_W d 192 79 [some (.ref l1), some (.int l2), some (.int l3), some (.int l4)] [] (n, sl, f) Q) (h7 : ¬ (¬ s5 = (0 : Int32)) → mi_W d 192 54 [some (.ref l1), some (.int l2), some (.int l3), some (.int l4)] [] (n, sl, f) Q) : mi_W d 192 51 [some (.ref l1), some (.int l2), some (.int l3), some (.int l4)] [.int s5] (n, sl, f) Q := by
  exact w_ifne cd_192_51 (by decide) h6 h7
theorem b_192_54 {d : Nat} {Q : (Option Value ⊕ Nat) → mi_H → Prop} (n sl : Nat) (f : Nat → mi_C) {l1 : Nat} {l2 : Int32} {l3 : Int32} {l4 : Int32} (h5 : l2 = 1 → mi_W d 192 71 [some (.ref l1), some (.int l2), some (.int l3), some (.int l4)] [.ref l1] (n, sl, f) Q) (h6 : ¬ (l2 = 1) → mi_W d 192 60 [some (.ref l1), some (.int l2), some (.int l3), some (.int l4)] [.ref l1] (n, sl, f) Q) : mi_W d 192 54 [some (.ref l1), some (.int l2), some (.int l3), some (.int l4)] [] (n, sl, f) Q := by
  refine w_aload_n cd_192_54 rfl ?_
  refine w_iload_n cd_192_55 rfl ?_
  refine w_iconst (v := 1) cd_192_56 (by decide) ?_
  exact w_if_icmpeq cd_192_57 (by decide) h5 h6
theorem b_192_60 {d : Nat} {Q : (Option Value ⊕ Nat) → mi_H → Prop} (n sl : Nat) (f : Nat → mi_C) {l1 : Nat} {l2 : Int32} {l3 : Int32} {l4 : Int32} {s5 : Nat} {fs6 : List Value} {x9 : Int32} (h7 : f l1 = .inr (12, fs6)) (h8 : l1 < n) (h10 : fs6[4]? = some (.int x9)) (h11 : (0 : Int32) ≤ x9 → mi_W d 192 71 [some (.ref l1), some (.int l2), some (.int l3), some (.int l4)] [.ref s5] (n, sl, f) Q) (h12 : ¬ ((0 : Int32) ≤ x9) → mi_W d 192 67 [some (.ref l1), some (.int l2), some (.int l3), some (.int l4)] [.ref s5] (n, sl, f) Q) : mi_W d 192 60 [some (.ref l1), some (.int l2), some (.int l3), some (.int l4)] [.ref s5] (n, sl, f) Q := by
  refine w_aload_n cd_192_60 rfl ?_
  refine w_getfield cd_192_61 (show mt_f 12 13 = some (12, 4) by decide +kernel) h7 h8 h10 ?_
  exact w_ifge cd_192_64 (by decide) h11 h12
theorem b_192_67 {d : Nat} {Q : (Option Value ⊕ Nat) → mi_H → Prop} (n sl : Nat) (f : Nat → mi_C) {l1 : Nat} {l2 : Int32} {l3 : Int32} {l4 : Int32} {s5 : Nat} (h6 : mi_W d 192 72 [some (.ref l1), some (.int l2), some (.int l3), some (.int l4)] [.int 1, .ref s5] (n, sl, f) Q) : mi_W d 192 67 [some (.ref l1), some (.int l2), some (.int l3), some (.int l4)] [.ref s5] (n, sl, f) Q := by
  refine w_iconst (v := 1) cd_192_67 (by decide) ?_
  exact w_goto cd_192_68 (by decide) h6
theorem b_192_71 {d : Nat} {Q : (Option Value ⊕ Nat) → mi_H → Prop} (n sl : Nat) (f : Nat → mi_C) {l1 : Nat} {l2 : Int32} {l3 : Int32} {l4 : Int32} {s5 : Nat} (h6 : mi_W d 192 72 [some (.ref l1), some (.int l2), some (.int l3), some (.int l4)] [.int 0, .ref s5] (n, sl, f) Q) : mi_W d 192 71 [some (.ref l1), some (.int l2), some (.int l3), some (.int l4)] [.ref s5] (n, sl, f) Q := by
  refine w_iconst (v := 0) cd_192_71 (by decide) ?_
  exact h6
theorem b_192_72 {d : Nat} {Q : (Option Value ⊕ Nat) → mi_H → Prop} (n sl : Nat) (f : Nat → mi_C) {l1 : Nat} {l2 : Int32} {l3 : Int32} {l4 : Int32} {s5 : Int32} {s6 : Nat} {fs7 : List Value} (h8 : f s6 = .inr (12, fs7)) (h9 : s6 < n) (h10 : mi_W d 139 0 (mi_en 3 [.ref s6, .int s5, .int 2]) [] (n, sl, f) (mi_Kc d 192 73 [some (.ref l1), some (.int l2), some (.int l3), some (.int l4)] [] Q)) : mi_W (d + 1) 192 72 [some (.ref l1), some (.int l2), some (.int l3), some (.int l4)] [.int s5, .ref s6] (n, sl, f) Q := by
  refine w_iconst (v := 2) cd_192_72 (by decide) ?_
  exact w_invokevirtual cd_192_73 (show mt_m 12 254 = some (139, 0) by decide +kernel) (rest := []) rfl (as := [.ref s6, .int s5, .int 2]) rfl h8 (Or.inl h9) ⟨Nat.le_of_ble_eq_true rfl, Nat.le_of_ble_eq_true rfl, Nat.le_of_ble_eq_true rfl⟩ h10
theorem b_192_76 {d : Nat} {Q : (Option Value ⊕ Nat) → mi_H → Prop} (n sl : Nat) (f : Nat → mi_C) {l1 : Nat} {l2 : Int32} {l3 : Int32} {l4 : Int32} {s5 : Int32} (h6 : s5 = (0 : Int32) → mi_W d 192 81 [some (.ref l1), some (.int l2), some (.int l3), some (.int l4)] [] (n, sl, f) Q) (h7 : ¬ (s5 = (0 : Int32)) → mi_W d 192 79 [some (.ref l1), some (.int l2), some (.int l3), some (.int l4)] [] (n, sl, f) Q) : mi_W d 192 76 [some (.ref l1), some (.int l2), some (.int l3), some (.int l4)] [.int s5] (n, sl, f) Q := by
  exact w_ifeq cd_192_76 (by decide) h6 h7
theorem b_192_79 {d : Nat} {Q : (Option Value ⊕ Nat) → mi_H → Prop} (n sl : Nat) (f : Nat → mi_C) {l1 : Nat} {l2 : Int32} {l3 : Int32} {l4 : Int32} (h5 : Q (.inl (some (.long 0))) (n, sl, f)) : mi_W d 192 79 [some (.ref l1), some (.int l2), some (.int l3), some (.int l4)] [] (n, sl, f) Q := by
  refine w_lconst (lv := 0) cd_192_79 (by decide) ?_
  exact w_lreturn cd_192_80 (by decide +kernel) h5
theorem b_192_81 {d : Nat} {Q : (Option Value ⊕ Nat) → mi_H → Prop} (n sl : Nat) (f : Nat → mi_C) {l1 : Nat} {l2 : Int32} {l3 : Int32} {l4 : Int32} {t5 : Nat} (h6 : mi_ts 82 107 0 3 #[30, 44, 55, 81] (l2 : Int32).toInt = some t5) (h7 : mi_W d 192 t5 [some (.ref l1), some (.int l2), some (.int l3), some (.int l4)] [] (n, sl, f) Q) : mi_W d 192 81 [some (.ref l1), some (.int l2), some (.int l3), some (.int l4)] [] (n, sl, f) Q := by
  refine w_iload_n cd_192_81 rfl ?_
  exact w_tableswitch cd_192_82 h6 h7
theorem b_192_112 {d : Nat} {Q : (Option Value ⊕ Nat) → mi_H → Prop} (n sl : Nat) (f : Nat → mi_C) {l1 : Nat} {l2 : Int32} {l3 : Int32} {l4 : Int32} {fs5 : List Value} {x8 : Nat} {fs10 : List Value} {x13 : Nat} (m15 i15 : Nat) (g15 : Nat → Int64) (h6 : f l1 = .inr (12, fs5)) (h7 : l1 < n) (h9 : fs5[41]? = some (.ref x8)) (h11 : f x8 = .inr (13, fs10)) (h12 : x8 < n) (h14 : fs10[2]? = some (.ref x13)) (h16 : f x13 = .inl (3, m15, .inr (.inl g15))) (h17 : x13 < n) (h18 : mi_ix ((4 * l3) + l4) m15 i15) (h19 : Q (.inl (some (.long (g15 i15)))) (n, sl, f)) : mi_W d 192 112 [some (.ref l1), some (.int l2), some (.int l3), some (.int l4)] [] (n, sl, f) Q := by
  refine w_aload_n cd_192_112 rfl ?_
  refine w_getfield cd_192_113 (show mt_f 12 147 = some (12, 41) by decide +kernel) h6 h7 h9 ?_
  refine w_getfield cd_192_116 (show mt_f 12 448 = some (13, 2) by decide +kernel) h11 h12 h14 ?_
  refine w_iconst (v := 4) cd_192_119 (by decide) ?_
  refine w_iload_n cd_192_120 rfl ?_
  refine w_imul cd_192_121 ?_
  refine w_iload_n cd_192_122 rfl ?_
  refine w_iadd cd_192_123 ?_
  refine w_laload cd_192_124 h16 h17 h18 ?_
  exact w_lreturn cd_192_125 (by decide +kernel) h19
theorem b_192_126 {d : Nat} {Q : (Option Value ⊕ Nat) → mi_H → Prop} (n sl : Nat) (f : Nat → mi_C) {l1 : Nat} {l2 : Int32} {l3 : Int32} {l4 : Int32} {fs5 : List Value} {x8 : Nat} (m10 i10 : Nat) (g10 : Nat → Int64) (h6 : f l1 = .inr (12, fs5)) (h7 : l1 < n) (h9 : fs5[56]? = some (.ref x8)) (h11 : f x8 = .inl (3, m10, .inr (.inl g10))) (h12 : x8 < n) (h13 : mi_ix ((4 * l3) + l4) m10 i10) (h14 : Q (.inl (some (.long (g10 i10)))) (n, sl, f)) : mi_W d 192 126 [some (.ref l1), some (.int l2), some (.int l3), some (.int l4)] [] (n, sl, f) Q := by
  refine w_aload_n cd_192_126 rfl ?_
  refine w_getfield cd_192_127 (show mt_f 12 175 = some (12, 56) by decide +kernel) h6 h7 h9 ?_
  refine w_iconst (v := 4) cd_192_130 (by decide) ?_
  refine w_iload_n cd_192_131 rfl ?_
  refine w_imul cd_192_132 ?_
  refine w_iload_n cd_192_133 rfl ?_
  refine w_iadd cd_192_134 ?_
  refine w_laload cd_192_135 h11 h12 h13 ?_
  exact w_lreturn cd_192_136 (by decide +kernel) h14
theorem b_192_137 {d : Nat} {Q : (Option Value ⊕ Nat) → mi_H → Prop} (n sl : Nat) (f : Nat → mi_C) {l1 : Nat} {l2 : Int32} {l3 : Int32} {l4 : Int32} {fs5 : List Value} {x8 : Nat} {fs10 : List Value} {x13 : Nat} (m15 i15 : Nat) (g15 : Nat → Int32) (h6 : f l1 = .inr (12, fs5)) (h7 : l1 < n) (h9 : fs5[41]? = some (.ref x8)) (h11 : f x8 = .inr (13, fs10)) (h12 : x8 < n) (h14 : fs10[5]? = some (.ref x13)) (h16 : f x13 = .inl (2, m15, .inl g15)) (h17 : x13 < n) (h18 : mi_ix l3 m15 i15) (h19 : (g15 i15) = (0 : Int32) → mi_W d 192 161 [some (.ref l1), some (.int l2), some (.int l3), some (.int l4)] [] (n, sl, f) Q) (h20 : ¬ ((g15 i15) = (0 : Int32)) → mi_W d 192 149 [some (.ref l1), some (.int l2), some (.int l3), some (.int l4)] [] (n, sl, f) Q) : mi_W d 192 137 [some (.ref l1), some (.int l2), some (.int l3), some (.int l4)] [] (n, sl, f) Q := by
  refine w_aload_n cd_192_137 rfl ?_
  refine w_getfield cd_192_138 (show mt_f 12 147 = some (12, 41) by decide +kernel) h6 h7 h9 ?_
  refine w_getfield cd_192_141 (show mt_f 12 459 = some (13, 5) by decide +kernel) h11 h12 h14 ?_
  refine w_iload_n cd_192_144 rfl ?_
  refine w_baload2 cd_192_145 h16 h17 h18 ?_
  exact w_ifeq cd_192_146 (by decide) h19 h20
theorem b_192_149 {d : Nat} {Q : (Option Value ⊕ Nat) → mi_H → Prop} (n sl : Nat) (f : Nat → mi_C) {l1 : Nat} {l2 : Int32} {l3 : Int32} {l4 : Int32} {fs5 : List Value} {x8 : Nat} {fs10 : List Value} {x13 : Nat} (m15 i15 : Nat) (g15 : Nat → Int64) (h6 : f l1 = .inr (12, fs5)) (h7 : l1 < n) (h9 : fs5[41]? = some (.ref x8)) (h11 : f x8 = .inr (13, fs10)) (h12 : x8 < n) (h14 : fs10[3]? = some (.ref x13)) (h16 : f x13 = .inl (3, m15, .inr (.inl g15))) (h17 : x13 < n) (h18 : mi_ix l3 m15 i15) (h19 : mi_W d 192 162 [some (.ref l1), some (.int l2), some (.int l3), some (.int l4)] [.long (g15 i15)] (n, sl, f) Q) : mi_W d 192 149 [some (.ref l1), some (.int l2), some (.int l3), some (.int l4)] [] (n, sl, f) Q := by
  refine w_aload_n cd_192_149 rfl ?_
  refine w_getfield cd_192_150 (show mt_f 12 147 = some (12, 41) by decide +kernel) h6 h7 h9 ?_
  refine w_getfield cd_192_153 (show mt_f 12 463 = some (13, 3) by decide +kernel) h11 h12 h14 ?_
  refine w_iload_n cd_192_156 rfl ?_
  refine w_laload cd_192_157 h16 h17 h18 ?_
  exact w_goto cd_192_158 (by decide) h19
theorem b_192_161 {d : Nat} {Q : (Option Value ⊕ Nat) → mi_H → Prop} (n sl : Nat) (f : Nat → mi_C) {l1 : Nat} {l2 : Int32} {l3 : Int32} {l4 : Int32} (h5 : mi_W d 192 162 [some (.ref l1), some (.int l2), some (.int l3), some (.int l4)] [.long 0] (n, sl, f) Q) : mi_W d 192 161 [some (.ref l1), some (.int l2), some (.int l3), some (.int l4)] [] (n, sl, f) Q := by
  refine w_lconst (lv := 0) cd_192_161 (by decide) ?_
  exact h5
theorem b_192_162 {d : Nat} {Q : (Option Value ⊕ Nat) → mi_H → Prop} (n sl : Nat) (f : Nat → mi_C) {l1 : Nat} {l2 : Int32} {l3 : Int32} {l4 : Int32} {s5 : Int64} (h6 : Q (.inl (some (.long s5))) (n, sl, f)) : mi_W d 192 162 [some (.ref l1), some (.int l2), some (.int l3), some (.int l4)] [.long s5] (n, sl, f) Q := by
  exact w_lreturn cd_192_162 (by decide +kernel) h6
theorem b_192_163 {d : Nat} {Q : (Option Value ⊕ Nat) → mi_H → Prop} (n sl : Nat) (f : Nat → mi_C) {l1 : Nat} {l2 : Int32} {l3 : Int32} {l4 : Int32} {fs5 : List Value} {x8 : Nat} {fs10 : List Value} {x13 : Nat} (m15 i15 : Nat) (g15 : Nat → Int32) (h6 : f l1 = .inr (12, fs5)) (h7 : l1 < n) (h9 : fs5[41]? = some (.ref x8)) (h11 : f x8 = .inr (13, fs10)) (h12 : x8 < n) (h14 : fs10[6]? = some (.ref x13)) (h16 : f x13 = .inl (2, m15, .inl g15)) (h17 : x13 < n) (h18 : mi_ix l3 m15 i15) (h19 : (g15 i15) = (0 : Int32) → mi_W d 192 187 [some (.ref l1), some (.int l2), some (.int l3), some (.int l4)] [] (n, sl, f) Q) (h20 : ¬ ((g15 i15) = (0 : Int32)) → mi_W d 192 175 [some (.ref l1), some (.int l2), some (.int l3), some (.int l4)] [] (n, sl, f) Q) : mi_W d 192 163 [some (.ref l1), some (.int l2), some (.int l3), some (.int l4)] [] (n, sl, f) Q := by
  refine w_aload_n cd_192_163 rfl ?_
  refine w_getfield cd_192_164 (show mt_f 12 147 = some (12, 41) by decide +kernel) h6 h7 h9 ?_
  refine w_getfield cd_192_167 (show mt_f 12 465 = some (13, 6) by decide +kernel) h11 h12 h14 ?_
  refine w_iload_n cd_192_170 rfl ?_
  refine w_baload2 cd_192_171 h16 h17 h18 ?_
  exact w_ifeq cd_192_172 (by decide) h19 h20
theorem b_192_175 {d : Nat} {Q : (Option Value ⊕ Nat) → mi_H → Prop} (n sl : Nat) (f : Nat → mi_C) {l1 : Nat} {l2 : Int32} {l3 : Int32} {l4 : Int32} {fs5 : List Value} {x8 : Nat} {fs10 : List Value} {x13 : Nat} (m15 i15 : Nat) (g15 : Nat → Int64) (h6 : f l1 = .inr (12, fs5)) (h7 : l1 < n) (h9 : fs5[41]? = some (.ref x8)) (h11 : f x8 = .inr (13, fs10)) (h12 : x8 < n) (h14 : fs10[4]? = some (.ref x13)) (h16 : f x13 = .inl (3, m15, .inr (.inl g15))) (h17 : x13 < n) (h18 : mi_ix l3 m15 i15) (h19 : mi_W d 192 188 [some (.ref l1), some (.int l2), some (.int l3), some (.int l4)] [.long (g15 i15)] (n, sl, f) Q) : mi_W d 192 175 [some (.ref l1), some (.int l2), some (.int l3), some (.int l4)] [] (n, sl, f) Q := by
  refine w_aload_n cd_192_175 rfl ?_
  refine w_getfield cd_192_176 (show mt_f 12 147 = some (12, 41) by decide +kernel) h6 h7 h9 ?_
  refine w_getfield cd_192_179 (show mt_f 12 468 = some (13, 4) by decide +kernel) h11 h12 h14 ?_
  refine w_iload_n cd_192_182 rfl ?_
  refine w_laload cd_192_183 h16 h17 h18 ?_
  exact w_goto cd_192_184 (by decide) h19
theorem b_192_187 {d : Nat} {Q : (Option Value ⊕ Nat) → mi_H → Prop} (n sl : Nat) (f : Nat → mi_C) {l1 : Nat} {l2 : Int32} {l3 : Int32} {l4 : Int32} (h5 : mi_W d 192 188 [some (.ref l1), some (.int l2), some (.int l3), some (.int l4)] [.long 0] (n, sl, f) Q) : mi_W d 192 187 [some (.ref l1), some (.int l2), some (.int l3), some (.int l4)] [] (n, sl, f) Q := by
  refine w_lconst (lv := 0) cd_192_187 (by decide) ?_
  exact h5
theorem b_192_188 {d : Nat} {Q : (Option Value ⊕ Nat) → mi_H → Prop} (n sl : Nat) (f : Nat → mi_C) {l1 : Nat} {l2 : Int32} {l3 : Int32} {l4 : Int32} {s5 : Int64} (h6 : Q (.inl (some (.long s5))) (n, sl, f)) : mi_W d 192 188 [some (.ref l1), some (.int l2), some (.int l3), some (.int l4)] [.long s5] (n, sl, f) Q := by
  exact w_lreturn cd_192_188 (by decide +kernel) h6
theorem b_192_189 {d : Nat} {Q : (Option Value ⊕ Nat) → mi_H → Prop} (n sl : Nat) (f : Nat → mi_C) {l1 : Nat} {l2 : Int32} {l3 : Int32} {l4 : Int32} {fs5 : List Value} {x8 : Nat} {fs10 : List Value} {x13 : Int64} (h6 : f l1 = .inr (12, fs5)) (h7 : l1 < n) (h9 : fs5[41]? = some (.ref x8)) (h11 : f x8 = .inr (13, fs10)) (h12 : x8 < n) (h14 : fs10[1]? = some (.long x13)) (h15 : Q (.inl (some (.long x13))) (n, sl, f)) : mi_W d 192 189 [some (.ref l1), some (.int l2), some (.int l3), some (.int l4)] [] (n, sl, f) Q := by
  refine w_aload_n cd_192_189 rfl ?_
  refine w_getfield cd_192_190 (show mt_f 12 147 = some (12, 41) by decide +kernel) h6 h7 h9 ?_
  refine w_getfield cd_192_193 (show mt_f 12 516 = some (13, 1) by decide +kernel) h11 h12 h14 ?_
  exact w_lreturn cd_192_196 (by decide +kernel) h15
/-! MarloweHostModel.analyse()I -/
theorem cd_193_0 : mt_cd 193 0 = some (.aload_n 0) := by decide +kernel
theorem cd_193_1 : mt_cd 193 1 = some (.iconst 0) := by decide +kernel
theorem cd_193_2 : mt_cd 193 2 = some (.putfield 248) := by decide +kernel
theorem cd_193_5 : mt_cd 193 5 = some (.aload_n 0) := by decide +kernel
theorem cd_193_6 : mt_cd 193 6 = some (.aload_n 0) := by decide +kernel
theorem cd_193_7 : mt_cd 193 7 = some (.getfield 13) := by decide +kernel
theorem cd_193_10 : mt_cd 193 10 = some (.ifCond .ge 7) := by decide +kernel
theorem cd_193_13 : mt_cd 193 13 = some (.iconst 1) := by decide +kernel
theorem cd_193_14 : mt_cd 193 14 = some (.goto 4) := by decide +kernel
theorem cd_193_17 : mt_cd 193 17 = some (.iconst 0) := by decide +kernel
theorem cd_193_18 : mt_cd 193 18 = some (.iconst 1) := by decide +kernel
theorem cd_193_19 : mt_cd 193 19 = some (.invokevirtual 254) := by decide +kernel
theorem cd_193_22 : mt_cd 193 22 = some (.ifCond .eq 5) := by decide +kernel
theorem cd_193_25 : mt_cd 193 25 = some (.iconst 0) := by decide +kernel
theorem cd_193_26 : mt_cd 193 26 = some (.ireturn) := by decide +kernel
theorem cd_193_27 : mt_cd 193 27 = some (.aload_n 0) := by decide +kernel
theorem cd_193_28 : mt_cd 193 28 = some (.iconst 0) := by decide +kernel
theorem cd_193_29 : mt_cd 193 29 = some (.putfield 562) := by decide +kernel
theorem cd_193_32 : mt_cd 193 32 = some (.aload_n 0) := by decide +kernel
theorem cd_193_33 : mt_cd 193 33 = some (.iconst 0) := by decide +kernel
theorem cd_193_34 : mt_cd 193 34 = some (.putfield 565) := by decide +kernel
theorem cd_193_37 : mt_cd 193 37 = some (.aload_n 0) := by decide +kernel
theorem cd_193_38 : mt_cd 193 38 = some (.iconst 0) := by decide +kernel
theorem cd_193_39 : mt_cd 193 39 = some (.putfield 568) := by decide +kernel
theorem cd_193_42 : mt_cd 193 42 = some (.aload_n 0) := by decide +kernel
theorem cd_193_43 : mt_cd 193 43 = some (.aload_n 0) := by decide +kernel
theorem cd_193_44 : mt_cd 193 44 = some (.getfield 147) := by decide +kernel
theorem cd_193_47 : mt_cd 193 47 = some (.getfield 496) := by decide +kernel
theorem cd_193_50 : mt_cd 193 50 = some (.invokevirtual 557) := by decide +kernel
theorem cd_193_53 : mt_cd 193 53 = some (.ifCond .eq 5) := by decide +kernel
theorem cd_193_56 : mt_cd 193 56 = some (.iconst 3) := by decide +kernel
theorem cd_193_57 : mt_cd 193 57 = some (.ireturn) := by decide +kernel
theorem cd_193_58 : mt_cd 193 58 = some (.aload_n 0) := by decide +kernel
theorem cd_193_59 : mt_cd 193 59 = some (.iconst 0) := by decide +kernel
theorem cd_193_60 : mt_cd 193 60 = some (.putfield 513) := by decide +kernel
theorem cd_193_63 : mt_cd 193 63 = some (.aload_n 0) := by decide +kernel
theorem cd_193_64 : mt_cd 193 64 = some (.getfield 258) := by decide +kernel
theorem cd_193_67 : mt_cd 193 67 = some (.istore_n 1) := by decide +kernel
theorem cd_193_68 : mt_cd 193 68 = some (.iconst 0) := by decide +kernel
theorem cd_193_69 : mt_cd 193 69 = some (.istore_n 2) := by decide +kernel
theorem cd_193_70 : mt_cd 193 70 = some (.iload_n 2) := by decide +kernel
theorem cd_193_71 : mt_cd 193 71 = some (.iload_n 1) := by decide +kernel
theorem cd_193_72 : mt_cd 193 72 = some (.if_icmp .ge 69) := by decide +kernel
theorem cd_193_75 : mt_cd 193 75 = some (.aload_n 0) := by decide +kernel
theorem cd_193_76 : mt_cd 193 76 = some (.getfield 233) := by decide +kernel
theorem cd_193_79 : mt_cd 193 79 = some (.iload_n 2) := by decide +kernel
theorem cd_193_80 : mt_cd 193 80 = some (.aload_n 0) := by decide +kernel
theorem cd_193_81 : mt_cd 193 81 = some (.getfield 178) := by decide +kernel
theorem cd_193_84 : mt_cd 193 84 = some (.iload_n 2) := by decide +kernel
theorem cd_193_85 : mt_cd 193 85 = some (.iaload) := by decide +kernel
theorem cd_193_86 : mt_cd 193 86 = some (.iastore) := by decide +kernel
theorem cd_193_87 : mt_cd 193 87 = some (.aload_n 0) := by decide +kernel
theorem cd_193_88 : mt_cd 193 88 = some (.getfield 236) := by decide +kernel
theorem cd_193_91 : mt_cd 193 91 = some (.iload_n 2) := by decide +kernel
theorem cd_193_92 : mt_cd 193 92 = some (.aload_n 0) := by decide +kernel
theorem cd_193_93 : mt_cd 193 93 = some (.getfield 181) := by decide +kernel
theorem cd_193_96 : mt_cd 193 96 = some (.iload_n 2) := by decide +kernel
theorem cd_193_97 : mt_cd 193 97 = some (.iaload) := by decide +kernel
theorem cd_193_98 : mt_cd 193 98 = some (.iastore) := by decide +kernel
theorem cd_193_99 : mt_cd 193 99 = some (.aload_n 0) := by decide +kernel
theorem cd_193_100 : mt_cd 193 100 = some (.getfield 239) := by decide +kernel
theorem cd_193_103 : mt_cd 193 103 = some (.iload_n 2) := by decide +kernel
theorem cd_193_104 : mt_cd 193 104 = some (.aload_n 0) := by decide +kernel
theorem cd_193_105 : mt_cd 193 105 = some (.getfield 184) := by decide +kernel
theorem cd_193_108 : mt_cd 193 108 = some (.iload_n 2) := by decide +kernel
theorem cd_193_109 : mt_cd 193 109 = some (.iaload) := by decide +kernel
theorem cd_193_110 : mt_cd 193 110 = some (.iastore) := by decide +kernel
theorem cd_193_111 : mt_cd 193 111 = some (.aload_n 0) := by decide +kernel
theorem cd_193_112 : mt_cd 193 112 = some (.getfield 242) := by decide +kernel
theorem cd_193_115 : mt_cd 193 115 = some (.iload_n 2) := by decide +kernel
theorem cd_193_116 : mt_cd 193 116 = some (.aload_n 0) := by decide +kernel
theorem cd_193_117 : mt_cd 193 117 = some (.getfield 187) := by decide +kernel
theorem cd_193_120 : mt_cd 193 120 = some (.iload_n 2) := by decide +kernel
theorem cd_193_121 : mt_cd 193 121 = some (.iaload) := by decide +kernel
theorem cd_193_122 : mt_cd 193 122 = some (.iastore) := by decide +kernel
theorem cd_193_123 : mt_cd 193 123 = some (.aload_n 0) := by decide +kernel
theorem cd_193_124 : mt_cd 193 124 = some (.getfield 245) := by decide +kernel
theorem cd_193_127 : mt_cd 193 127 = some (.iload_n 2) := by decide +kernel
theorem cd_193_128 : mt_cd 193 128 = some (.aload_n 0) := by decide +kernel
theorem cd_193_129 : mt_cd 193 129 = some (.getfield 190) := by decide +kernel
theorem cd_193_132 : mt_cd 193 132 = some (.iload_n 2) := by decide +kernel
theorem cd_193_133 : mt_cd 193 133 = some (.laload) := by decide +kernel
theorem cd_193_134 : mt_cd 193 134 = some (.lastore) := by decide +kernel
theorem cd_193_135 : mt_cd 193 135 = some (.iinc 2 1) := by decide +kernel
theorem cd_193_138 : mt_cd 193 138 = some (.goto (-68)) := by decide +kernel
theorem cd_193_141 : mt_cd 193 141 = some (.aload_n 0) := by decide +kernel
theorem cd_193_142 : mt_cd 193 142 = some (.aload_n 0) := by decide +kernel
theorem cd_193_143 : mt_cd 193 143 = some (.getfield 147) := by decide +kernel
theorem cd_193_146 : mt_cd 193 146 = some (.invokevirtual 571) := by decide +kernel
theorem cd_193_149 : mt_cd 193 149 = some (.istore_n 2) := by decide +kernel
theorem cd_193_150 : mt_cd 193 150 = some (.aload_n 0) := by decide +kernel
theorem cd_193_151 : mt_cd 193 151 = some (.iload_n 1) := by decide +kernel
theorem cd_193_152 : mt_cd 193 152 = some (.putfield 258) := by decide +kernel
theorem cd_193_155 : mt_cd 193 155 = some (.iconst 0) := by decide +kernel
theorem cd_193_156 : mt_cd 193 156 = some (.istore_n 3) := by decide +kernel
theorem cd_193_157 : mt_cd 193 157 = some (.iload_n 3) := by decide +kernel
theorem cd_193_158 : mt_cd 193 158 = some (.iload_n 1) := by decide +kernel
theorem cd_193_159 : mt_cd 193 159 = some (.if_icmp .ge 69) := by decide +kernel
theorem cd_193_162 : mt_cd 193 162 = some (.aload_n 0) := by decide +kernel
theorem cd_193_163 : mt_cd 193 163 = some (.getfield 178) := by decide +kernel
theorem cd_193_166 : mt_cd 193 166 = some (.iload_n 3) := by decide +kernel
theorem cd_193_167 : mt_cd 193 167 = some (.aload_n 0) := by decide +kernel
theorem cd_193_168 : mt_cd 193 168 = some (.getfield 233) := by decide +kernel
theorem cd_193_171 : mt_cd 193 171 = some (.iload_n 3) := by decide +kernel
theorem cd_193_172 : mt_cd 193 172 = some (.iaload) := by decide +kernel
theorem cd_193_173 : mt_cd 193 173 = some (.iastore) := by decide +kernel
theorem cd_193_174 : mt_cd 193 174 = some (.aload_n 0) := by decide +kernel
theorem cd_193_175 : mt_cd 193 175 = some (.getfield 181) := by decide +kernel
theorem cd_193_178 : mt_cd 193 178 = some (.iload_n 3) := by decide +kernel
theorem cd_193_179 : mt_cd 193 179 = some (.aload_n 0) := by decide +kernel
theorem cd_193_180 : mt_cd 193 180 = some (.getfield 236) := by decide +kernel
theorem cd_193_183 : mt_cd 193 183 = some (.iload_n 3) := by decide +kernel
theorem cd_193_184 : mt_cd 193 184 = some (.iaload) := by decide +kernel
theorem cd_193_185 : mt_cd 193 185 = some (.iastore) := by decide +kernel
theorem cd_193_186 : mt_cd 193 186 = some (.aload_n 0) := by decide +kernel
theorem cd_193_187 : mt_cd 193 187 = some (.getfield 184) := by decide +kernel
theorem cd_193_190 : mt_cd 193 190 = some (.iload_n 3) := by decide +kernel
theorem cd_193_191 : mt_cd 193 191 = some (.aload_n 0) := by decide +kernel
theorem cd_193_192 : mt_cd 193 192 = some (.getfield 239) := by decide +kernel
theorem cd_193_195 : mt_cd 193 195 = some (.iload_n 3) := by decide +kernel
theorem cd_193_196 : mt_cd 193 196 = some (.iaload) := by decide +kernel
theorem cd_193_197 : mt_cd 193 197 = some (.iastore) := by decide +kernel
theorem cd_193_198 : mt_cd 193 198 = some (.aload_n 0) := by decide +kernel
theorem cd_193_199 : mt_cd 193 199 = some (.getfield 187) := by decide +kernel
theorem cd_193_202 : mt_cd 193 202 = some (.iload_n 3) := by decide +kernel
theorem cd_193_203 : mt_cd 193 203 = some (.aload_n 0) := by decide +kernel
theorem cd_193_204 : mt_cd 193 204 = some (.getfield 242) := by decide +kernel
theorem cd_193_207 : mt_cd 193 207 = some (.iload_n 3) := by decide +kernel
theorem cd_193_208 : mt_cd 193 208 = some (.iaload) := by decide +kernel
theorem cd_193_209 : mt_cd 193 209 = some (.iastore) := by decide +kernel
theorem cd_193_210 : mt_cd 193 210 = some (.aload_n 0) := by decide +kernel
theorem cd_193_211 : mt_cd 193 211 = some (.getfield 190) := by decide +kernel
theorem cd_193_214 : mt_cd 193 214 = some (.iload_n 3) := by decide +kernel
theorem cd_193_215 : mt_cd 193 215 = some (.aload_n 0) := by decide +kernel
theorem cd_193_216 : mt_cd 193 216 = some (.getfield 245) := by decide +kernel
theorem cd_193_219 : mt_cd 193 219 = some (.iload_n 3) := by decide +kernel
theorem cd_193_220 : mt_cd 193 220 = some (.laload) := by decide +kernel
theorem cd_193_221 : mt_cd 193 221 = some (.lastore) := by decide +kernel
theorem cd_193_222 : mt_cd 193 222 = some (.iinc 3 1) := by decide +kernel
theorem cd_193_225 : mt_cd 193 225 = some (.goto (-68)) := by decide +kernel
theorem cd_193_228 : mt_cd 193 228 = some (.iload_n 2) := by decide +kernel
theorem cd_193_229 : mt_cd 193 229 = some (.ireturn) := by decide +kernel
theorem b_193_0 {d : Nat} {Q : (Option Value ⊕ Nat) → mi_H → Prop} (n sl : Nat) (f : Nat → mi_C) {l1 : Nat} {o2 : Option Value} {o3 : Option Value} {o4 : Option Value} {fs5 : List Value} {fs9 : List Value} {x12 : Int32} (h6 : f l1 = .inr (12, fs5)) (h7 : l1 < n) (h8 : 0 < fs5.length) (h10 : (va_up f l1 (.inr (12, fs5.set 0 (.int 0)))) l1 = .inr (12, fs9)) (h11 : l1 < n) (h13 : fs9[4]? = some (.int x12)) (h14 : (0 : Int32) ≤ x12 → mi_W d 193 17 [some (.ref l1), o2, o3, o4] [.ref l1] (n, sl, (va_up f l1 (.inr (12, fs5.set 0 (.int 0))))) Q) (h15 : ¬ ((0 : Int32) ≤ x12) → mi_W d 193 13 [some (.ref l1), o2, o3, o4] [.ref l1] (n, sl, (va_up f l1 (.inr (12, fs5.set 0 (.int 0))))) Q) : mi_W d 193 0 [some (.ref l1), o2, o3, o4] [] (n, sl, f) Q := by
  refine w_aload_n cd_193_0 rfl ?_
  refine w_iconst (v := 0) cd_193_1 (by decide) ?_
  refine w_putfield (w := .int 0) cd_193_2 (show mt_f 12 248 = some (12, 0) by decide +kernel) h6 h7 ⟨h8, rfl, Or.inl (by decide)⟩ ?_
  refine w_aload_n cd_193_5 rfl ?_
  refine w_aload_n cd_193_6 rfl ?_
  refine w_getfield cd_193_7 (show mt_f 12 13 = some (12, 4) by decide +kernel) h10 h11 h13 ?_
  exact w_ifge cd_193_10 (by decide) h14 h15
theorem b_193_13 {d : Nat} {Q : (Option Value ⊕ Nat) → mi_H → Prop} (n sl : Nat) (f : Nat → mi_C) {l1 : Nat} {o2 : Option Value} {o3 : Option Value} {o4 : Option Value} {s5 : Nat} (h6 : mi_W d 193 18 [some (.ref l1), o2, o3, o4] [.int 1, .ref s5] (n, sl, f) Q) : mi_W d 193 13 [some (.ref l1), o2, o3, o4] [.ref s5] (n, sl, f) Q := by
  refine w_iconst (v := 1) cd_193_13 (by decide) ?_
  exact w_goto cd_193_14 (by decide) h6
theorem b_193_17 {d : Nat} {Q : (Option Value ⊕ Nat) → mi_H → Prop} (n sl : Nat) (f : Nat → mi_C) {l1 : Nat} {o2 : Option Value} {o3 : Option Value} {o4 : Option Value} {s5 : Nat} (h6 : mi_W d 193 18 [some (.ref l1), o2, o3, o4] [.int 0, .ref s5] (n, sl, f) Q) : mi_W d 193 17 [some (.ref l1), o2, o3, o4] [.ref s5] (n, sl, f) Q := by
  refine w_iconst (v := 0) cd_193_17 (by decide) ?_
  exact h6
theorem b_193_18 {d : Nat} {Q : (Option Value ⊕ Nat) → mi_H → Prop} (n sl : Nat) (f : Nat → mi_C) {l1 : Nat} {o2 : Option Value} {o3 : Option Value} {o4 : Option Value} {s5 : Int32} {s6 : Nat} {fs7 : List Value} (h8 : f s6 = .inr (12, fs7)) (h9 : s6 < n) (h10 : mi_W d 139 0 (mi_en 3 [.ref s6, .int s5, .int 1]) [] (n, sl, f) (mi_Kc d 193 19 [some (.ref l1), o2, o3, o4] [] Q)) : mi_W (d + 1) 193 18 [some (.ref l1), o2, o3, o4] [.int s5, .ref s6] (n, sl, f) Q := by
  refine w_iconst (v := 1) cd_193_18 (by decide) ?_
  exact w_invokevirtual cd_193_19 (show mt_m 12 254 = some (139, 0) by decide +kernel) (rest := []) rfl (as := [.ref s6, .int s5, .int 1]) rfl h8 (Or.inl h9) ⟨Nat.le_of_ble_eq_true rfl, Nat.le_of_ble_eq_true rfl, Nat.le_of_ble_eq_true rfl⟩ h10
theorem b_193_22 {d : Nat} {Q : (Option Value ⊕ Nat) → mi_H → Prop} (n sl : Nat) (f : Nat → mi_C) {l1 : Nat} {o2 : Option Value} {o3 : Option Value} {o4 : Option Value} {s5 : Int32} (h6 : s5 = (0 : Int32) → mi_W d 193 27 [some (.ref l1), o2, o3, o4] [] (n, sl, f) Q) (h7 : ¬ (s5 = (0 : Int32)) → mi_W d 193 25 [some (.ref l1), o2, o3, o4] [] (n, sl, f) Q) : mi_W d 193 22 [some (.ref l1), o2, o3, o4] [.int s5] (n, sl, f) Q := by
  exact w_ifeq cd_193_22 (by decide) h6 h7
theorem b_193_25 {d : Nat} {Q : (Option Value ⊕ Nat) → mi_H → Prop} (n sl : Nat) (f : Nat → mi_C) {l1 : Nat} {o2 : Option Value} {o3 : Option Value} {o4 : Option Value} (h5 : Q (.inl (some (.int 0))) (n, sl, f)) : mi_W d 193 25 [some (.ref l1), o2, o3, o4] [] (n, sl, f) Q := by
  refine w_iconst (v := 0) cd_193_25 (by decide) ?_
  exact w_ireturn_i cd_193_26 (by decide +kernel) h5
theorem b_193_27 {d : Nat} {Q : (Option Value ⊕ Nat) → mi_H → Prop} (n sl : Nat) (f : Nat → mi_C) {l1 : Nat} {o2 : Option Value} {o3 : Option Value} {o4 : Option Value} {fs5 : List Value} {fs9 : List Value} {fs13 : List Value} {fs17 : List Value} {x20 : Nat} {fs22 : List Value} {x25 : Int32} {fs27 : List Value} (h6 : f l1 = .inr (12, fs5)) (h7 : l1 < n) (h8 : 73 < fs5.length) (h10 : (va_up f l1 (.inr (12, fs5.set 73 (.int 0)))) l1 = .inr (12, fs9)) (h11 : l1 < n) (h12 : 75 < fs9.length) (h14 : (va_up (va_up f l1 (.inr (12, fs5.set 73 (.int 0)))) l1 (.inr (12, fs9.set 75 (.int 0)))) l1 = .inr (12, fs13)) (h15 : l1 < n) (h16 : 74 < fs13.length) (h18 : (va_up (va_up (va_up f l1 (.inr (12, fs5.set 73 (.int 0)))) l1 (.inr (12, fs9.set 75 (.int 0)))) l1 (.inr (12, fs13.set 74 (.int 0)))) l1 = .inr (12, fs17)) (h19 : l1 < n) (h21 : fs17[41]? = some (.ref x20)) (h23 : (va_up (va_up (va_up f l1 (.inr (12, fs5.set 73 (.int 0)))) l1 (.inr (12, fs9.set 75 (.int 0)))) l1 (.inr (12, fs13.set 74 (.int 0)))) x20 = .inr (13, fs22)) (h24 : x20 < n) (h26 : fs22[0]? = some (.int x25)) (h28 : (va_up (va_up (va_up f l1 (.inr (12, fs5.set 73 (.int 0)))) l1 (.inr (12, fs9.set 75 (.int 0)))) l1 (.inr (12, fs13.set 74 (.int 0)))) l1 = .inr (12, fs27)) (h29 : l1 < n) (h30 : mi_W d 194 0 (mi_en 6 [.ref l1, .int x25]) [] (n, sl, (va_up (va_up (va_up f l1 (.inr (12, fs5.set 73 (.int 0)))) l1 (.inr (12, fs9.set 75 (.int 0)))) l1 (.inr (12, fs13.set 74 (.int 0))))) (mi_Kc d 193 50 [some (.ref l1), o2, o3, o4] [] Q)) : mi_W (d + 1) 193 27 [some (.ref l1), o2, o3, o4] [] (n, sl, f) Q := by
  refine w_aload_n cd_193_27 rfl ?_
  refine w_iconst (v := 0) cd_193_28 (by decide) ?_
  refine w_putfield (w := .int 0) cd_193_29 (show mt_f 12 562 = some (12, 73) by decide +kernel) h6 h7 ⟨h8, rfl, Or.inl (by decide)⟩ ?_
  refine w_aload_n cd_193_32 rfl ?_
  refine w_iconst (v := 0) cd_193_33 (by decide) ?_
  refine w_putfield (w := .int 0) cd_193_34 (show mt_f 12 565 = some (12, 75) by decide +kernel) h10 h11 ⟨h12, rfl, Or.inl (by decide)⟩ ?_
  refine w_aload_n cd_193_37 rfl ?_
  refine w_iconst (v := 0) cd_193_38 (by decide) ?_
  refine w_putfield (w := .int 0) cd_193_39 (show mt_f 12 568 = some (12, 74) by decide +kernel) h14 h15 ⟨h16, rfl, Or.inl (by decide)⟩ ?_
  refine w_aload_n cd_193_42 rfl ?_
  refine w_aload_n cd_193_43 rfl ?_
  refine w_getfield cd_193_44 (show mt_f 12 147 = some (12, 41) by decide +kernel) h18 h19 h21 ?_
  refine w_getfield cd_193_47 (show mt_f 12 496 = some (13, 0) by decide +kernel) h23 h24 h26 ?_
  exact w_invokevirtual cd_193_50 (show mt_m 12 557 = some (194, 0) by decide +kernel) (rest := []) rfl (as := [.ref l1, .int x25]) rfl h28 (Or.inl h29) ⟨Nat.le_of_ble_eq_true rfl, Nat.le_of_ble_eq_true rfl, Nat.le_of_ble_eq_true rfl⟩ h30
theorem b_193_53 {d : Nat} {Q : (Option Value ⊕ Nat) → mi_H → Prop} (n sl : Nat) (f : Nat → mi_C) {l1 : Nat} {o2 : Option Value} {o3 : Option Value} {o4 : Option Value} {s5 : Int32} (h6 : s5 = (0 : Int32) → mi_W d 193 58 [some (.ref l1), o2, o3, o4] [] (n, sl, f) Q) (h7 : ¬ (s5 = (0 : Int32)) → mi_W d 193 56 [some (.ref l1), o2, o3, o4] [] (n, sl, f) Q) : mi_W d 193 53 [some (.ref l1), o2, o3, o4] [.int s5] (n, sl, f) Q := by
  exact w_ifeq cd_193_53 (by decide) h6 h7
theorem b_193_56 {d : Nat} {Q : (Option Value ⊕ Nat) → mi_H → Prop} (n sl : Nat) (f : Nat → mi_C) {l1 : Nat} {o2 : Option Value} {o3 : Option Value} {o4 : Option Value} (h5 : Q (.inl (some (.int 3))) (n, sl, f)) : mi_W d 193 56 [some (.ref l1), o2, o3, o4] [] (n, sl, f) Q := by
  refine w_iconst (v := 3) cd_193_56 (by decide) ?_
  exact w_ireturn_i cd_193_57 (by decide +kernel) h5
theorem b_193_58 {d : Nat} {Q : (Option Value ⊕ Nat) → mi_H → Prop} (n sl : Nat) (f : Nat → mi_C) {l1 : Nat} {o2 : Option Value} {o3 : Option Value} {o4 : Option Value} {fs5 : List Value} {fs10 : List Value} {x13 : Int32} (h6 : f l1 = .inr (12, fs5)) (h7 : l1 < n) (h8 : 57 < fs5.length) (h9 : mi_fk .boolean (.int 0) = true) (h11 : (va_up f l1 (.inr (12, fs5.set 57 (.int 0)))) l1 = .inr (12, fs10)) (h12 : l1 < n) (h14 : fs10[59]? = some (.int x13)) (h15 : mi_W d 193 70 [some (.ref l1), some (.int x13), some (.int 0), o4] [] (n, sl, (va_up f l1 (.inr (12, fs5.set 57 (.int 0))))) Q) : mi_W d 193 58 [some (.ref l1), o2, o3, o4] [] (n, sl, f) Q := by
  refine w_aload_n cd_193_58 rfl ?_
  refine w_iconst (v := 0) cd_193_59 (by decide) ?_
  refine w_putfield (w := .int 0) cd_193_60 (show mt_f 12 513 = some (12, 57) by decide +kernel) h6 h7 ⟨h8, h9, Or.inl (by decide)⟩ ?_
  refine w_aload_n cd_193_63 rfl ?_
  refine w_getfield cd_193_64 (show mt_f 12 258 = some (12, 59) by decide +kernel) h11 h12 h14 ?_
  refine w_istore_n (ls' := [some (.ref l1), some (.int x13), o3, o4]) cd_193_67 (Nat.le_of_ble_eq_true rfl) rfl ?_
  refine w_iconst (v := 0) cd_193_68 (by decide) ?_
  refine w_istore_n (ls' := [some (.ref l1), some (.int x13), some (.int 0), o4]) cd_193_69 (Nat.le_of_ble_eq_true rfl) rfl ?_
  exact h15
theorem b_193_70 {d : Nat} {Q : (Option Value ⊕ Nat) → mi_H → Prop} (n sl : Nat) (f : Nat → mi_C) {l1 : Nat} {l2 : Int32} {l3 : Int32} {o4 : Option Value} (h5 : l2 ≤ l3 → mi_W d 193 141 [some (.ref l1), some (.int l2), some (.int l3), o4] [] (n, sl, f) Q) (h6 : ¬ (l2 ≤ l3) → mi_W d 193 75 [some (.ref l1), some (.int l2), some (.int l3), o4] [] (n, sl, f) Q) : mi_W d 193 70 [some (.ref l1), some (.int l2), some (.int l3), o4] [] (n, sl, f) Q := by
  refine w_iload_n cd_193_70 rfl ?_
  refine w_iload_n cd_193_71 rfl ?_
  exact w_if_icmpge cd_193_72 (by decide) h5 h6
theorem b_193_75 {d : Nat} {Q : (Option Value ⊕ Nat) → mi_H → Prop} (n sl : Nat) (f : Nat → mi_C) {l1 : Nat} {l2 : Int32} {l3 : Int32} {o4 : Option Value} {fs5 : List Value} {x8 : Nat} {fs10 : List Value} {x13 : Nat} (m15 i15 : Nat) (g15 : Nat → Int32) (m19 i19 : Nat) (g19 : Nat → Int32) {fs23 : List Value} {x26 : Nat} {fs28 : List Value} {x31 : Nat} (m33 i33 : Nat) (g33 : Nat → Int32) (m37 i37 : Nat) (g37 : Nat → Int32) {fs41 : List Value} {x44 : Nat} {fs46 : List Value} {x49 : Nat} (m51 i51 : Nat) (g51 : Nat → Int32) (m55 i55 : Nat) (g55 : Nat → Int32) {fs59 : List Value} {x62 : Nat} {fs64 : List Value} {x67 : Nat} (m69 i69 : Nat) (g69 : Nat → Int32) (m73 i73 : Nat) (g73 : Nat → Int32) {fs77 : List Value} {x80 : Nat} {fs82 : List Value} {x85 : Nat} (m87 i87 : Nat) (g87 : Nat → Int64) (m91 i91 : Nat) (g91 : Nat → Int64) (h6 : f l1 = .inr (12, fs5)) (h7 : l1 < n) (h9 : fs5[83]? = some (.ref x8)) (h11 : f l1 = .inr (12, fs10)) (h12 : l1 < n) (h14 : fs10[60]? = some (.ref x13)) (h16 : f x13 = .inl (0, m15, .inl g15)) (h17 : x13 < n ∨ x13 = mi_SC) (h18 : mi_ix l3 m15 i15) (h20 : f x8 = .inl (0, m19, .inl g19)) (h21 : x8 < n) (h22 : mi_ix l3 m19 i19) (h24 : (va_up f x8 (.inl (0, m19, .inl (upd g19 i19 (g15 i15))))) l1 = .inr (12, fs23)) (h25 : l1 < n) (h27 : fs23[84]? = some (.ref x26)) (h29 : (va_up f x8 (.inl (0, m19, .inl (upd g19 i19 (g15 i15))))) l1 = .inr (12, fs28)) (h30 : l1 < n) (h32 : fs28[61]? = some (.ref x31)) (h34 : (va_up f x8 (.inl (0, m19, .inl (upd g19 i19 (g15 i15))))) x31 = .inl (0, m33, .inl g33)) (h35 : x31 < n ∨ x31 = mi_SC) (h36 : mi_ix l3 m33 i33) (h38 : (va_up f x8 (.inl (0, m19, .inl (upd g19 i19 (g15 i15))))) x26 = .inl (0, m37, .inl g37)) (h39 : x26 < n) (h40 : mi_ix l3 m37 i37) (h42 : (va_up (va_up f x8 (.inl (0, m19, .inl (upd g19 i19 (g15 i15))))) x26 (.inl (0, m37, .inl (upd g37 i37 (g33 i33))))) l1 = .inr (12, fs41)) (h43 : l1 < n) (h45 : fs41[85]? = some (.ref x44)) (h47 : (va_up (va_up f x8 (.inl (0, m19, .inl (upd g19 i19 (g15 i15))))) x26 (.inl (0, m37, .inl (upd g37 i37 (g33 i33))))) l1 = .inr (12, fs46)) (h48 : l1 < n) (h50 : fs46[62]? = some (.ref x49)) (h52 : (va_up (va_up f x8 (.inl (0, m19, .inl (upd g19 i19 (g15 i15))))) x26 (.inl (0, m37, .inl (upd g37 i37 (g33 i33))))) x49 = .inl (0, m51, .inl g51)) (h53 : x49 < n ∨ x49 = mi_SC) (h54 : mi_ix l3 m51 i51) (h56 : (va_up (va_up f x8 (.inl (0, m19, .inl (upd g19 i19 (g15 i15))))) x26 (.inl (0, m37, .inl (upd g37 i37 (g33 i33))))) x44 = .inl (0, m55, .inl g55)) (h57 : x44 < n) (h58 : mi_ix l3 m55 i55) (h60 : (va_up (va_up (va_up f x8 (.inl (0, m19, .inl (upd g19 i19 (g15 i15))))) x26 (.inl (0, m37, .inl (upd g37 i37 (g33 i33))))) x44 (.inl (0, m55, .inl (upd g55 i55 (g51 i51))))) l1 = .inr (12, fs59)) (h61 : l1 < n) (h63 : fs59[86]? = some (.ref x62)) (h65 : (va_up (va_up (va_up f x8 (.inl (0, m19, .inl (upd g19 i19 (g15 i15))))) x26 (.inl (0, m37, .inl (upd g37 i37 (g33 i33))))) x44 (.inl (0, m55, .inl (upd g55 i55 (g51 i51))))) l1 = .inr (12, fs64)) (h66 : l1 < n) (h68 : fs64[63]? = some (.ref x67)) (h70 : (va_up (va_up (va_up f x8 (.inl (0, m19, .inl (upd g19 i19 (g15 i15))))) x26 (.inl (0, m37, .inl (upd g37 i37 (g33 i33))))) x44 (.inl (0, m55, .inl (upd g55 i55 (g51 i51))))) x67 = .inl (0, m69, .inl g69)) (h71 : x67 < n ∨ x67 = mi_SC) (h72 : mi_ix l3 m69 i69) (h74 : (va_up (va_up (va_up f x8 (.inl (0, m19, .inl (upd g19 i19 (g15 i15))))) x26 (.inl (0, m37, .inl (upd g37 i37 (g33 i33))))) x44 (.inl (0, m55, .inl (upd g55 i55 (g51 i51))))) x62 = .inl (0, m73, .inl g73)) (h75 : x62 < n) (h76 : mi_ix l3 m73 i73) (h78 : (va_up (va_up (va_up (va_up f x8 (.inl (0, m19, .inl (upd g19 i19 (g15 i15))))) x26 (.inl (0, m37, .inl (upd g37 i37 (g33 i33))))) x44 (.inl (0, m55, .inl (upd g55 i55 (g51 i51))))) x62 (.inl (0, m73, .inl (upd g73 i73 (g69 i69))))) l1 = .inr (12, fs77)) (h79 : l1 < n) (h81 : fs77[87]? = some (.ref x80)) (h83 : (va_up (va_up (va_up (va_up f x8 (.inl (0, m19, .inl (upd g19 i19 (g15 i15))))) x26 (.inl (0, m37, .inl (upd g37 i37 (g33 i33))))) x44 (.inl (0, m55, .inl (upd g55 i55 (g51 i51))))) x62 (.inl (0, m73, .inl (upd g73 i73 (g69 i69))))) l1 = .inr (12, fs82)) (h84 : l1 < n) (h86 : fs82[64]? = some (.ref x85)) (h88 : (va_up (va_up (va_up (va_up f x8 (.inl (0, m19, .inl (upd g19 i19 (g15 i15))))) x26 (.inl (0, m37, .inl (upd g37 i37 (g33 i33))))) x44 (.inl (0, m55, .inl (upd g55 i55 (g51 i51))))) x62 (.inl (0, m73, .inl (upd g73 i73 (g69 i69))))) x85 = .inl (3, m87, .inr (.inl g87))) (h89 : x85 < n) (h90 : mi_ix l3 m87 i87) (h92 : (va_up (va_up (va_up (va_up f x8 (.inl (0, m19, .inl (upd g19 i19 (g15 i15))))) x26 (.inl (0, m37, .inl (upd g37 i37 (g33 i33))))) x44 (.inl (0, m55, .inl (upd g55 i55 (g51 i51))))) x62 (.inl (0, m73, .inl (upd g73 i73 (g69 i69))))) x80 = .inl (3, m91, .inr (.inl g91))) (h93 : x80 < n) (h94 : mi_ix l3 m91 i91) (h95 : mi_W d 193 70 [some (.ref l1), some (.int l2), some (.int (l3 + 1)), o4] [] (n, sl, (va_up (va_up (va_up (va_up (va_up f x8 (.inl (0, m19, .inl (upd g19 i19 (g15 i15))))) x26 (.inl (0, m37, .inl (upd g37 i37 (g33 i33))))) x44 (.inl (0, m55, .inl (upd g55 i55 (g51 i51))))) x62 (.inl (0, m73, .inl (upd g73 i73 (g69 i69))))) x80 (.inl (3, m91, .inr (.inl (vp_updL g91 i91 (g87 i87))))))) Q) : mi_W d 193 75 [some (.ref l1), some (.int l2), some (.int l3), o4] [] (n, sl, f) Q := by
  refine w_aload_n cd_193_75 rfl ?_
  refine w_getfield cd_193_76 (show mt_f 12 233 = some (12, 83) by decide +kernel) h6 h7 h9 ?_
  refine w_iload_n cd_193_79 rfl ?_
  refine w_aload_n cd_193_80 rfl ?_
  refine w_getfield cd_193_81 (show mt_f 12 178 = some (12, 60) by decide +kernel) h11 h12 h14 ?_
  refine w_iload_n cd_193_84 rfl ?_
  refine w_iaload cd_193_85 h16 h17 h18 ?_
  refine w_iastore cd_193_86 h20 h21 h22 ?_
  refine w_aload_n cd_193_87 rfl ?_
  refine w_getfield cd_193_88 (show mt_f 12 236 = some (12, 84) by decide +kernel) h24 h25 h27 ?_
  refine w_iload_n cd_193_91 rfl ?_
  refine w_aload_n cd_193_92 rfl ?_
  refine w_getfield cd_193_93 (show mt_f 12 181 = some (12, 61) by decide +kernel) h29 h30 h32 ?_
  refine w_iload_n cd_193_96 rfl ?_
  refine w_iaload cd_193_97 h34 h35 h36 ?_
  refine w_iastore cd_193_98 h38 h39 h40 ?_
  refine w_aload_n cd_193_99 rfl ?_
  refine w_getfield cd_193_100 (show mt_f 12 239 = some (12, 85) by decide +kernel) h42 h43 h45 ?_
  refine w_iload_n cd_193_103 rfl ?_
  refine w_aload_n cd_193_104 rfl ?_
  refine w_getfield cd_193_105 (show mt_f 12 184 = some (12, 62) by decide +kernel) h47 h48 h50 ?_
  refine w_iload_n cd_193_108 rfl ?_
  refine w_iaload cd_193_109 h52 h53 h54 ?_
  refine w_iastore cd_193_110 h56 h57 h58 ?_
  refine w_aload_n cd_193_111 rfl ?_
  refine w_getfield cd_193_112 (show mt_f 12 242 = some (12, 86) by decide +kernel) h60 h61 h63 ?_
  refine w_iload_n cd_193_115 rfl ?_
  refine w_aload_n cd_193_116 rfl ?_
  refine w_getfield cd_193_117 (show mt_f 12 187 = some (12, 63) by decide +kernel) h65 h66 h68 ?_
  refine w_iload_n cd_193_120 rfl ?_
  refine w_iaload cd_193_121 h70 h71 h72 ?_
  refine w_iastore cd_193_122 h74 h75 h76 ?_
  refine w_aload_n cd_193_123 rfl ?_
  refine w_getfield cd_193_124 (show mt_f 12 245 = some (12, 87) by decide +kernel) h78 h79 h81 ?_
  refine w_iload_n cd_193_127 rfl ?_
  refine w_aload_n cd_193_128 rfl ?_
  refine w_getfield cd_193_129 (show mt_f 12 190 = some (12, 64) by decide +kernel) h83 h84 h86 ?_
  refine w_iload_n cd_193_132 rfl ?_
  refine w_laload cd_193_133 h88 h89 h90 ?_
  refine w_lastore cd_193_134 h92 h93 h94 ?_
  refine w_iinc (v := 1) (ls' := [some (.ref l1), some (.int l2), some (.int (l3 + 1)), o4]) cd_193_135 rfl (by decide) rfl ?_
  exact w_goto cd_193_138 (by decide) h95
theorem b_193_141 {d : Nat} {Q : (Option Value ⊕ Nat) → mi_H → Prop} (n sl : Nat) (f : Nat → mi_C) {l1 : Nat} {l2 : Int32} {l3 : Int32} {o4 : Option Value} {fs5 : List Value} {x8 : Nat} {fs10 : List Value} (h6 : f l1 = .inr (12, fs5)) (h7 : l1 < n) (h9 : fs5[41]? = some (.ref x8)) (h11 : f l1 = .inr (12, fs10)) (h12 : l1 < n) (h13 : mi_W d 196 0 (mi_en 6 [.ref l1, .ref x8]) [] (n, sl, f) (mi_Kc d 193 146 [some (.ref l1), some (.int l2), some (.int l3), o4] [] Q)) : mi_W (d + 1) 193 141 [some (.ref l1), some (.int l2), some (.int l3), o4] [] (n, sl, f) Q := by
  refine w_aload_n cd_193_141 rfl ?_
  refine w_aload_n cd_193_142 rfl ?_
  refine w_getfield cd_193_143 (show mt_f 12 147 = some (12, 41) by decide +kernel) h6 h7 h9 ?_
  exact w_invokevirtual cd_193_146 (show mt_m 12 571 = some (196, 0) by decide +kernel) (rest := []) rfl (as := [.ref l1, .ref x8]) rfl h11 (Or.inl h12) ⟨Nat.le_of_ble_eq_true rfl, Nat.le_of_ble_eq_true rfl, Nat.le_of_ble_eq_true rfl⟩ h13
theorem b_193_149 {d : Nat} {Q : (Option Value ⊕ Nat) → mi_H → Prop} (n sl : Nat) (f : Nat → mi_C) {l1 : Nat} {l2 : Int32} {l3 : Int32} {o4 : Option Value} {s5 : Int32} {fs6 : List Value} (h7 : f l1 = .inr (12, fs6)) (h8 : l1 < n) (h9 : 59 < fs6.length) (h10 : mi_W d 193 157 [some (.ref l1), some (.int l2), some (.int s5), some (.int 0)] [] (n, sl, (va_up f l1 (.inr (12, fs6.set 59 (.int l2))))) Q) : mi_W d 193 149 [some (.ref l1), some (.int l2), some (.int l3), o4] [.int s5] (n, sl, f) Q := by
  refine w_istore_n (ls' := [some (.ref l1), some (.int l2), some (.int s5), o4]) cd_193_149 (Nat.le_of_ble_eq_true rfl) rfl ?_
  refine w_aload_n cd_193_150 rfl ?_
  refine w_iload_n cd_193_151 rfl ?_
  refine w_putfield (w := .int l2) cd_193_152 (show mt_f 12 258 = some (12, 59) by decide +kernel) h7 h8 ⟨h9, rfl, Or.inl (by decide)⟩ ?_
  refine w_iconst (v := 0) cd_193_155 (by decide) ?_
  refine w_istore_n (ls' := [some (.ref l1), some (.int l2), some (.int s5), some (.int 0)]) cd_193_156 (Nat.le_of_ble_eq_true rfl) rfl ?_
  exact h10
theorem b_193_157 {d : Nat} {Q : (Option Value ⊕ Nat) → mi_H → Prop} (n sl : Nat) (f : Nat → mi_C) {l1 : Nat} {l2 : Int32} {l3 : Int32} {l4 : Int32} (h5 : l2 ≤ l4 → mi_W d 193 228 [some (.ref l1), some (.int l2), some (.int l3), some (.int l4)] [] (n, sl, f) Q) (h6 : ¬ (l2 ≤ l4) → mi_W d 193 162 [some (.ref l1), some (.int l2), some (.int l3), some (.int l4)] [] (n, sl, f) Q) : mi_W d 193 157 [some (.ref l1), some (.int l2), some (.int l3), some (.int l4)] [] (n, sl, f) Q := by
  refine w_iload_n cd_193_157 rfl ?_
  refine w_iload_n cd_193_158 rfl ?_
  exact w_if_icmpge cd_193_159 (by decide) h5 h6
theorem b_193_162 {d : Nat} {Q : (Option Value ⊕ Nat) → mi_H → Prop} (n sl : Nat) (f : Nat → mi_C) {l1 : Nat} {l2 : Int32} {l3 : Int32} {l4 : Int32} {fs5 : List Value} {x8 : Nat} {fs10 : List Value} {x13 : Nat} (m15 i15 : Nat) (g15 : Nat → Int32) (m19 i19 : Nat) (g19 : Nat → Int32) {fs23 : List Value} {x26 : Nat} {fs28 : List Value} {x31 : Nat} (m33 i33 : Nat) (g33 : Nat → Int32) (m37 i37 : Nat) (g37 : Nat → Int32) {fs41 : List Value} {x44 : Nat} {fs46 : List Value} {x49 : Nat} (m51 i51 : Nat) (g51 : Nat → Int32) (m55 i55 : Nat) (g55 : Nat → Int32) {fs59 : List Value} {x62 : Nat} {fs64 : List Value} {x67 : Nat} (m69 i69 : Nat) (g69 : Nat → Int32) (m73 i73 : Nat) (g73 : Nat → Int32) {fs77 : List Value} {x80 : Nat} {fs82 : List Value} {x85 : Nat} (m87 i87 : Nat) (g87 : Nat → Int64) (m91 i91 : Nat) (g91 : Nat → Int64) (h6 : f l1 = .inr (12, fs5)) (h7 : l1 < n) (h9 : fs5[60]? = some (.ref x8)) (h11 : f l1 = .inr (12, fs10)) (h12 : l1 < n) (h14 : fs10[83]? = some (.ref x13)) (h16 : f x13 = .inl (0, m15, .inl g15)) (h17 : x13 < n ∨ x13 = mi_SC) (h18 : mi_ix l4 m15 i15) (h20 : f x8 = .inl (0, m19, .inl g19)) (h21 : x8 < n) (h22 : mi_ix l4 m19 i19) (h24 : (va_up f x8 (.inl (0, m19, .inl (upd g19 i19 (g15 i15))))) l1 = .inr (12, fs23)) (h25 : l1 < n) (h27 : fs23[61]? = some (.ref x26)) (h29 : (va_up f x8 (.inl (0, m19, .inl (upd g19 i19 (g15 i15))))) l1 = .inr (12, fs28)) (h30 : l1 < n) (h32 : fs28[84]? = some (.ref x31)) (h34 : (va_up f x8 (.inl (0, m19, .inl (upd g19 i19 (g15 i15))))) x31 = .inl (0, m33, .inl g33)) (h35 : x31 < n ∨ x31 = mi_SC) (h36 : mi_ix l4 m33 i33) (h38 : (va_up f x8 (.inl (0, m19, .inl (upd g19 i19 (g15 i15))))) x26 = .inl (0, m37, .inl g37)) (h39 : x26 < n) (h40 : mi_ix l4 m37 i37) (h42 : (va_up (va_up f x8 (.inl (0, m19, .inl (upd g19 i19 (g15 i15))))) x26 (.inl (0, m37, .inl (upd g37 i37 (g33 i33))))) l1 = .inr (12, fs41)) (h43 : l1 < n) (h45 : fs41[62]? = some (.ref x44)) (h47 : (va_up (va_up f x8 (.inl (0, m19, .inl (upd g19 i19 (g15 i15))))) x26 (.inl (0, m37, .inl (upd g37 i37 (g33 i33))))) l1 = .inr (12, fs46)) (h48 : l1 < n) (h50 : fs46[85]? = some (.ref x49)) (h52 : (va_up (va_up f x8 (.inl (0, m19, .inl (upd g19 i19 (g15 i15))))) x26 (.inl (0, m37, .inl (upd g37 i37 (g33 i33))))) x49 = .inl (0, m51, .inl g51)) (h53 : x49 < n ∨ x49 = mi_SC) (h54 : mi_ix l4 m51 i51) (h56 : (va_up (va_up f x8 (.inl (0, m19, .inl (upd g19 i19 (g15 i15))))) x26 (.inl (0, m37, .inl (upd g37 i37 (g33 i33))))) x44 = .inl (0, m55, .inl g55)) (h57 : x44 < n) (h58 : mi_ix l4 m55 i55) (h60 : (va_up (va_up (va_up f x8 (.inl (0, m19, .inl (upd g19 i19 (g15 i15))))) x26 (.inl (0, m37, .inl (upd g37 i37 (g33 i33))))) x44 (.inl (0, m55, .inl (upd g55 i55 (g51 i51))))) l1 = .inr (12, fs59)) (h61 : l1 < n) (h63 : fs59[63]? = some (.ref x62)) (h65 : (va_up (va_up (va_up f x8 (.inl (0, m19, .inl (upd g19 i19 (g15 i15))))) x26 (.inl (0, m37, .inl (upd g37 i37 (g33 i33))))) x44 (.inl (0, m55, .inl (upd g55 i55 (g51 i51))))) l1 = .inr (12, fs64)) (h66 : l1 < n) (h68 : fs64[86]? = some (.ref x67)) (h70 : (va_up (va_up (va_up f x8 (.inl (0, m19, .inl (upd g19 i19 (g15 i15))))) x26 (.inl (0, m37, .inl (upd g37 i37 (g33 i33))))) x44 (.inl (0, m55, .inl (upd g55 i55 (g51 i51))))) x67 = .inl (0, m69, .inl g69)) (h71 : x67 < n ∨ x67 = mi_SC) (h72 : mi_ix l4 m69 i69) (h74 : (va_up (va_up (va_up f x8 (.inl (0, m19, .inl (upd g19 i19 (g15 i15))))) x26 (.inl (0, m37, .inl (upd g37 i37 (g33 i33))))) x44 (.inl (0, m55, .inl (upd g55 i55 (g51 i51))))) x62 = .inl (0, m73, .inl g73)) (h75 : x62 < n) (h76 : mi_ix l4 m73 i73) (h78 : (va_up (va_up (va_up (va_up f x8 (.inl (0, m19, .inl (upd g19 i19 (g15 i15))))) x26 (.inl (0, m37, .inl (upd g37 i37 (g33 i33))))) x44 (.inl (0, m55, .inl (upd g55 i55 (g51 i51))))) x62 (.inl (0, m73, .inl (upd g73 i73 (g69 i69))))) l1 = .inr (12, fs77)) (h79 : l1 < n) (h81 : fs77[64]? = some (.ref x80)) (h83 : (va_up (va_up (va_up (va_up f x8 (.inl (0, m19, .inl (upd g19 i19 (g15 i15))))) x26 (.inl (0, m37, .inl (upd g37 i37 (g33 i33))))) x44 (.inl (0, m55, .inl (upd g55 i55 (g51 i51))))) x62 (.inl (0, m73, .inl (upd g73 i73 (g69 i69))))) l1 = .inr (12, fs82)) (h84 : l1 < n) (h86 : fs82[87]? = some (.ref x85)) (h88 : (va_up (va_up (va_up (va_up f x8 (.inl (0, m19, .inl (upd g19 i19 (g15 i15))))) x26 (.inl (0, m37, .inl (upd g37 i37 (g33 i33))))) x44 (.inl (0, m55, .inl (upd g55 i55 (g51 i51))))) x62 (.inl (0, m73, .inl (upd g73 i73 (g69 i69))))) x85 = .inl (3, m87, .inr (.inl g87))) (h89 : x85 < n) (h90 : mi_ix l4 m87 i87) (h92 : (va_up (va_up (va_up (va_up f x8 (.inl (0, m19, .inl (upd g19 i19 (g15 i15))))) x26 (.inl (0, m37, .inl (upd g37 i37 (g33 i33))))) x44 (.inl (0, m55, .inl (upd g55 i55 (g51 i51))))) x62 (.inl (0, m73, .inl (upd g73 i73 (g69 i69))))) x80 = .inl (3, m91, .inr (.inl g91))) (h93 : x80 < n) (h94 : mi_ix l4 m91 i91) (h95 : mi_W d 193 157 [some (.ref l1), some (.int l2), some (.int l3), some (.int (l4 + 1))] [] (n, sl, (va_up (va_up (va_up (va_up (va_up f x8 (.inl (0, m19, .inl (upd g19 i19 (g15 i15))))) x26 (.inl (0, m37, .inl (upd g37 i37 (g33 i33))))) x44 (.inl (0, m55, .inl (upd g55 i55 (g51 i51))))) x62 (.inl (0, m73, .inl (upd g73 i73 (g69 i69))))) x80 (.inl (3, m91, .inr (.inl (vp_updL g91 i91 (g87 i87))))))) Q) : mi_W d 193 162 [some (.ref l1), some (.int l2), some (.int l3), some (.int l4)] [] (n, sl, f) Q := by
  refine w_aload_n cd_193_162 rfl ?_
  refine w_getfield cd_193_163 (show mt_f 12 178 = some (12, 60) by decide +kernel) h6 h7 h9 ?_
  refine w_iload_n cd_193_166 rfl ?_
  refine w_aload_n cd_193_167 rfl ?_
  refine w_getfield cd_193_168 (show mt_f 12 233 = some (12, 83) by decide +kernel) h11 h12 h14 ?_
  refine w_iload_n cd_193_171 rfl ?_
  refine w_iaload cd_193_172 h16 h17 h18 ?_
  refine w_iastore cd_193_173 h20 h21 h22 ?_
  refine w_aload_n cd_193_174 rfl ?_
  refine w_getfield cd_193_175 (show mt_f 12 181 = some (12, 61) by decide +kernel) h24 h25 h27 ?_
  refine w_iload_n cd_193_178 rfl ?_
  refine w_aload_n cd_193_179 rfl ?_
  refine w_getfield cd_193_180 (show mt_f 12 236 = some (12, 84) by decide +kernel) h29 h30 h32 ?_
  refine w_iload_n cd_193_183 rfl ?_
  refine w_iaload cd_193_184 h34 h35 h36 ?_
  refine w_iastore cd_193_185 h38 h39 h40 ?_
  refine w_aload_n cd_193_186 rfl ?_
  refine w_getfield cd_193_187 (show mt_f 12 184 = some (12, 62) by decide +kernel) h42 h43 h45 ?_
  refine w_iload_n cd_193_190 rfl ?_
  refine w_aload_n cd_193_191 rfl ?_
  refine w_getfield cd_193_192 (show mt_f 12 239 = some (12, 85) by decide +kernel) h47 h48 h50 ?_
  refine w_iload_n cd_193_195 rfl ?_
  refine w_iaload cd_193_196 h52 h53 h54 ?_
  refine w_iastore cd_193_197 h56 h57 h58 ?_
  refine w_aload_n cd_193_198 rfl ?_
  refine w_getfield cd_193_199 (show mt_f 12 187 = some (12, 63) by decide +kernel) h60 h61 h63 ?_
  refine w_iload_n cd_193_202 rfl ?_
  refine w_aload_n cd_193_203 rfl ?_
  refine w_getfield cd_193_204 (show mt_f 12 242 = some (12, 86) by decide +kernel) h65 h66 h68 ?_
  refine w_iload_n cd_193_207 rfl ?_
  refine w_iaload cd_193_208 h70 h71 h72 ?_
  refine w_iastore cd_193_209 h74 h75 h76 ?_
  refine w_aload_n cd_193_210 rfl ?_
  refine w_getfield cd_193_211 (show mt_f 12 190 = some (12, 64) by decide +kernel) h78 h79 h81 ?_
  refine w_iload_n cd_193_214 rfl ?_
  refine w_aload_n cd_193_215 rfl ?_
  refine w_getfield cd_193_216 (show mt_f 12 245 = some (12, 87) by decide +kernel) h83 h84 h86 ?_
  refine w_iload_n cd_193_219 rfl ?_
  refine w_laload cd_193_220 h88 h89 h90 ?_
  refine w_lastore cd_193_221 h92 h93 h94 ?_
  refine w_iinc (v := 1) (ls' := [some (.ref l1), some (.int l2), some (.int l3), some (.int (l4 + 1))]) cd_193_222 rfl (by decide) rfl ?_
  exact w_goto cd_193_225 (by decide) h95
theorem b_193_228 {d : Nat} {Q : (Option Value ⊕ Nat) → mi_H → Prop} (n sl : Nat) (f : Nat → mi_C) {l1 : Nat} {l2 : Int32} {l3 : Int32} {l4 : Int32} (h5 : Q (.inl (some (.int l3))) (n, sl, f)) : mi_W d 193 228 [some (.ref l1), some (.int l2), some (.int l3), some (.int l4)] [] (n, sl, f) Q := by
  refine w_iload_n cd_193_228 rfl ?_
  exact w_ireturn_i cd_193_229 (by decide +kernel) h5
/-! MarloweHostModel.outside(I)Z -/
theorem cd_194_0 : mt_cd 194 0 = some (.aload_n 0) := by decide +kernel
theorem cd_194_1 : mt_cd 194 1 = some (.getfield 77) := by decide +kernel
theorem cd_194_4 : mt_cd 194 4 = some (.iload_n 1) := by decide +kernel
theorem cd_194_5 : mt_cd 194 5 = some (.iaload) := by decide +kernel
theorem cd_194_6 : mt_cd 194 6 = some (.tableswitch 121 0 6 #[42, 44, 44, 76, 121, 44, 44]) := by decide +kernel
theorem cd_194_48 : mt_cd 194 48 = some (.iconst 0) := by decide +kernel
theorem cd_194_49 : mt_cd 194 49 = some (.ireturn) := by decide +kernel
theorem cd_194_50 : mt_cd 194 50 = some (.aload_n 0) := by decide +kernel
theorem cd_194_51 : mt_cd 194 51 = some (.aload_n 0) := by decide +kernel
theorem cd_194_52 : mt_cd 194 52 = some (.getfield 89) := by decide +kernel
theorem cd_194_55 : mt_cd 194 55 = some (.iload_n 1) := by decide +kernel
theorem cd_194_56 : mt_cd 194 56 = some (.iaload) := by decide +kernel
theorem cd_194_57 : mt_cd 194 57 = some (.invokevirtual 554) := by decide +kernel
theorem cd_194_60 : mt_cd 194 60 = some (.ifCond .ne 16) := by decide +kernel
theorem cd_194_63 : mt_cd 194 63 = some (.aload_n 0) := by decide +kernel
theorem cd_194_64 : mt_cd 194 64 = some (.aload_n 0) := by decide +kernel
theorem cd_194_65 : mt_cd 194 65 = some (.getfield 98) := by decide +kernel
theorem cd_194_68 : mt_cd 194 68 = some (.iload_n 1) := by decide +kernel
theorem cd_194_69 : mt_cd 194 69 = some (.iaload) := by decide +kernel
theorem cd_194_70 : mt_cd 194 70 = some (.invokevirtual 557) := by decide +kernel
theorem cd_194_73 : mt_cd 194 73 = some (.ifCond .eq 7) := by decide +kernel
theorem cd_194_76 : mt_cd 194 76 = some (.iconst 1) := by decide +kernel
theorem cd_194_77 : mt_cd 194 77 = some (.goto 4) := by decide +kernel
theorem cd_194_80 : mt_cd 194 80 = some (.iconst 0) := by decide +kernel
theorem cd_194_81 : mt_cd 194 81 = some (.ireturn) := by decide +kernel
theorem cd_194_82 : mt_cd 194 82 = some (.aload_n 0) := by decide +kernel
theorem cd_194_83 : mt_cd 194 83 = some (.aload_n 0) := by decide +kernel
theorem cd_194_84 : mt_cd 194 84 = some (.getfield 89) := by decide +kernel
theorem cd_194_87 : mt_cd 194 87 = some (.iload_n 1) := by decide +kernel
theorem cd_194_88 : mt_cd 194 88 = some (.iaload) := by decide +kernel
theorem cd_194_89 : mt_cd 194 89 = some (.invokevirtual 554) := by decide +kernel
theorem cd_194_92 : mt_cd 194 92 = some (.ifCond .ne 29) := by decide +kernel
theorem cd_194_95 : mt_cd 194 95 = some (.aload_n 0) := by decide +kernel
theorem cd_194_96 : mt_cd 194 96 = some (.aload_n 0) := by decide +kernel
theorem cd_194_97 : mt_cd 194 97 = some (.getfield 80) := by decide +kernel
theorem cd_194_100 : mt_cd 194 100 = some (.iload_n 1) := by decide +kernel
theorem cd_194_101 : mt_cd 194 101 = some (.iaload) := by decide +kernel
theorem cd_194_102 : mt_cd 194 102 = some (.invokevirtual 557) := by decide +kernel
theorem cd_194_105 : mt_cd 194 105 = some (.ifCond .ne 16) := by decide +kernel
theorem cd_194_108 : mt_cd 194 108 = some (.aload_n 0) := by decide +kernel
theorem cd_194_109 : mt_cd 194 109 = some (.aload_n 0) := by decide +kernel
theorem cd_194_110 : mt_cd 194 110 = some (.getfield 83) := by decide +kernel
theorem cd_194_113 : mt_cd 194 113 = some (.iload_n 1) := by decide +kernel
theorem cd_194_114 : mt_cd 194 114 = some (.iaload) := by decide +kernel
theorem cd_194_115 : mt_cd 194 115 = some (.invokevirtual 557) := by decide +kernel
theorem cd_194_118 : mt_cd 194 118 = some (.ifCond .eq 7) := by decide +kernel
theorem cd_194_121 : mt_cd 194 121 = some (.iconst 1) := by decide +kernel
theorem cd_194_122 : mt_cd 194 122 = some (.goto 4) := by decide +kernel
theorem cd_194_125 : mt_cd 194 125 = some (.iconst 0) := by decide +kernel
theorem cd_194_126 : mt_cd 194 126 = some (.ireturn) := by decide +kernel
theorem cd_194_127 : mt_cd 194 127 = some (.aload_n 0) := by decide +kernel
theorem cd_194_128 : mt_cd 194 128 = some (.getfield 92) := by decide +kernel
theorem cd_194_131 : mt_cd 194 131 = some (.iload_n 1) := by decide +kernel
theorem cd_194_132 : mt_cd 194 132 = some (.iaload) := by decide +kernel
theorem cd_194_133 : mt_cd 194 133 = some (.istore_n 2) := by decide +kernel
theorem cd_194_134 : mt_cd 194 134 = some (.iload_n 2) := by decide +kernel
theorem cd_194_135 : mt_cd 194 135 = some (.ifCond .lt 138) := by decide +kernel
theorem cd_194_138 : mt_cd 194 138 = some (.aload_n 0) := by decide +kernel
theorem cd_194_139 : mt_cd 194 139 = some (.getfield 77) := by decide +kernel
theorem cd_194_142 : mt_cd 194 142 = some (.iload_n 2) := by decide +kernel
theorem cd_194_143 : mt_cd 194 143 = some (.iaload) := by decide +kernel
theorem cd_194_144 : mt_cd 194 144 = some (.bipush 8) := by decide +kernel
theorem cd_194_146 : mt_cd 194 146 = some (.if_icmp .eq 16) := by decide +kernel
theorem cd_194_149 : mt_cd 194 149 = some (.aload_n 0) := by decide +kernel
theorem cd_194_150 : mt_cd 194 150 = some (.aload_n 0) := by decide +kernel
theorem cd_194_151 : mt_cd 194 151 = some (.getfield 89) := by decide +kernel
theorem cd_194_154 : mt_cd 194 154 = some (.iload_n 2) := by decide +kernel
theorem cd_194_155 : mt_cd 194 155 = some (.iaload) := by decide +kernel
theorem cd_194_156 : mt_cd 194 156 = some (.invokevirtual 554) := by decide +kernel
theorem cd_194_159 : mt_cd 194 159 = some (.ifCond .ne 16) := by decide +kernel
theorem cd_194_162 : mt_cd 194 162 = some (.aload_n 0) := by decide +kernel
theorem cd_194_163 : mt_cd 194 163 = some (.aload_n 0) := by decide +kernel
theorem cd_194_164 : mt_cd 194 164 = some (.getfield 98) := by decide +kernel
theorem cd_194_167 : mt_cd 194 167 = some (.iload_n 2) := by decide +kernel
theorem cd_194_168 : mt_cd 194 168 = some (.iaload) := by decide +kernel
theorem cd_194_169 : mt_cd 194 169 = some (.invokevirtual 557) := by decide +kernel
theorem cd_194_172 : mt_cd 194 172 = some (.ifCond .eq 5) := by decide +kernel
theorem cd_194_175 : mt_cd 194 175 = some (.iconst 1) := by decide +kernel
theorem cd_194_176 : mt_cd 194 176 = some (.ireturn) := by decide +kernel
theorem cd_194_177 : mt_cd 194 177 = some (.aload_n 0) := by decide +kernel
theorem cd_194_178 : mt_cd 194 178 = some (.getfield 77) := by decide +kernel
theorem cd_194_181 : mt_cd 194 181 = some (.iload_n 2) := by decide +kernel
theorem cd_194_182 : mt_cd 194 182 = some (.iaload) := by decide +kernel
theorem cd_194_183 : mt_cd 194 183 = some (.bipush 8) := by decide +kernel
theorem cd_194_185 : mt_cd 194 185 = some (.if_icmp .eq 6) := by decide +kernel
theorem cd_194_188 : mt_cd 194 188 = some (.goto 75) := by decide +kernel
theorem cd_194_191 : mt_cd 194 191 = some (.lconst 0) := by decide +kernel
theorem cd_194_192 : mt_cd 194 192 = some (.lstore_n 3) := by decide +kernel
theorem cd_194_193 : mt_cd 194 193 = some (.aload_n 0) := by decide +kernel
theorem cd_194_194 : mt_cd 194 194 = some (.getfield 141) := by decide +kernel
theorem cd_194_197 : mt_cd 194 197 = some (.iload_n 2) := by decide +kernel
theorem cd_194_198 : mt_cd 194 198 = some (.iaload) := by decide +kernel
theorem cd_194_199 : mt_cd 194 199 = some (.istore 5) := by decide +kernel
theorem cd_194_201 : mt_cd 194 201 = some (.iload 5) := by decide +kernel
theorem cd_194_203 : mt_cd 194 203 = some (.aload_n 0) := by decide +kernel
theorem cd_194_204 : mt_cd 194 204 = some (.getfield 141) := by decide +kernel
theorem cd_194_207 : mt_cd 194 207 = some (.iload_n 2) := by decide +kernel
theorem cd_194_208 : mt_cd 194 208 = some (.iaload) := by decide +kernel
theorem cd_194_209 : mt_cd 194 209 = some (.aload_n 0) := by decide +kernel
theorem cd_194_210 : mt_cd 194 210 = some (.getfield 95) := by decide +kernel
theorem cd_194_213 : mt_cd 194 213 = some (.iload_n 2) := by decide +kernel
theorem cd_194_214 : mt_cd 194 214 = some (.iaload) := by decide +kernel
theorem cd_194_215 : mt_cd 194 215 = some (.iadd) := by decide +kernel
theorem cd_194_216 : mt_cd 194 216 = some (.if_icmp .ge 37) := by decide +kernel
theorem cd_194_219 : mt_cd 194 219 = some (.lload_n 3) := by decide +kernel
theorem cd_194_220 : mt_cd 194 220 = some (.ldc2_w 560) := by decide +kernel
theorem cd_194_223 : mt_cd 194 223 = some (.lcmp) := by decide +kernel
theorem cd_194_224 : mt_cd 194 224 = some (.ifCond .gt 29) := by decide +kernel
theorem cd_194_227 : mt_cd 194 227 = some (.lload_n 3) := by decide +kernel
theorem cd_194_228 : mt_cd 194 228 = some (.aload_n 0) := by decide +kernel
theorem cd_194_229 : mt_cd 194 229 = some (.getfield 108) := by decide +kernel
theorem cd_194_232 : mt_cd 194 232 = some (.iload 5) := by decide +kernel
theorem cd_194_234 : mt_cd 194 234 = some (.laload) := by decide +kernel
theorem cd_194_235 : mt_cd 194 235 = some (.aload_n 0) := by decide +kernel
theorem cd_194_236 : mt_cd 194 236 = some (.getfield 105) := by decide +kernel
theorem cd_194_239 : mt_cd 194 239 = some (.iload 5) := by decide +kernel
theorem cd_194_241 : mt_cd 194 241 = some (.laload) := by decide +kernel
theorem cd_194_242 : mt_cd 194 242 = some (.lsub) := by decide +kernel
theorem cd_194_243 : mt_cd 194 243 = some (.lconst 1) := by decide +kernel
theorem cd_194_244 : mt_cd 194 244 = some (.ladd) := by decide +kernel
theorem cd_194_245 : mt_cd 194 245 = some (.ladd) := by decide +kernel
theorem cd_194_246 : mt_cd 194 246 = some (.lstore_n 3) := by decide +kernel
theorem cd_194_247 : mt_cd 194 247 = some (.iinc 5 1) := by decide +kernel
theorem cd_194_250 : mt_cd 194 250 = some (.goto (-49)) := by decide +kernel
theorem cd_194_253 : mt_cd 194 253 = some (.lload_n 3) := by decide +kernel
theorem cd_194_254 : mt_cd 194 254 = some (.ldc2_w 560) := by decide +kernel
theorem cd_194_257 : mt_cd 194 257 = some (.lcmp) := by decide +kernel
theorem cd_194_258 : mt_cd 194 258 = some (.ifCond .le 5) := by decide +kernel
theorem cd_194_261 : mt_cd 194 261 = some (.iconst 1) := by decide +kernel
theorem cd_194_262 : mt_cd 194 262 = some (.ireturn) := by decide +kernel
theorem cd_194_263 : mt_cd 194 263 = some (.aload_n 0) := by decide +kernel
theorem cd_194_264 : mt_cd 194 264 = some (.getfield 138) := by decide +kernel
theorem cd_194_267 : mt_cd 194 267 = some (.iload_n 2) := by decide +kernel
theorem cd_194_268 : mt_cd 194 268 = some (.iaload) := by decide +kernel
theorem cd_194_269 : mt_cd 194 269 = some (.istore_n 2) := by decide +kernel
theorem cd_194_270 : mt_cd 194 270 = some (.goto (-136)) := by decide +kernel
theorem cd_194_273 : mt_cd 194 273 = some (.aload_n 0) := by decide +kernel
theorem cd_194_274 : mt_cd 194 274 = some (.aload_n 0) := by decide +kernel
theorem cd_194_275 : mt_cd 194 275 = some (.getfield 98) := by decide +kernel
theorem cd_194_278 : mt_cd 194 278 = some (.iload_n 1) := by decide +kernel
theorem cd_194_279 : mt_cd 194 279 = some (.iaload) := by decide +kernel
theorem cd_194_280 : mt_cd 194 280 = some (.invokevirtual 557) := by decide +kernel
theorem cd_194_283 : mt_cd 194 283 = some (.ireturn) := by decide +kernel
theorem b_194_0 {d : Nat} {Q : (Option Value ⊕ Nat) → mi_H → Prop} (n sl : Nat) (f : Nat → mi_C) {l1 : Nat} {l2 : Int32} {o3 : Option Value} {o4 : Option Value} {o5 : Option Value} {o6 : Option Value} {fs7 : List Value} {x10 : Nat} (m12 i12 : Nat) (g12 : Nat → Int32) {t16 : Nat} (h8 : f l1 = .inr (12, fs7)) (h9 : l1 < n) (h11 : fs7[12]? = some (.ref x10)) (h13 : f x10 = .inl (0, m12, .inl g12)) (h14 : x10 < n ∨ x10 = mi_SC) (h15 : mi_ix l2 m12 i12) (h17 : mi_ts 6 121 0 6 #[42, 44, 44, 76, 121, 44, 44] ((g12 i12) : Int32).toInt = some t16) (h18 : mi_W d 194 t16 [some (.ref l1), some (.int l2), o3, o4, o5, o6] [] (n, sl, f) Q) : mi_W d 194 0 [some (.ref l1), some (.int l2), o3, o4, o5, o6] [] (n, sl, f) Q := by
  refine w_aload_n cd_194_0 rfl ?_
  refine w_getfield cd_194_1 (show mt_f 12 77 = some (12, 12) by decide +kernel) h8 h9 h11 ?_
  refine w_iload_n cd_194_4 rfl ?_
  refine w_iaload cd_194_5 h13 h14 h15 ?_
  exact w_tableswitch cd_194_6 h17 h18
theorem b_194_48 {d : Nat} {Q : (Option Value ⊕ Nat) → mi_H → Prop} (n sl : Nat) (f : Nat → mi_C) {l1 : Nat} {l2 : Int32} {o3 : Option Value} {o4 : Option Value} {o5 : Option Value} {o6 : Option Value} (h7 : Q (.inl (some (.int 0))) (n, sl, f)) : mi_W d 194 48 [some (.ref l1), some (.int l2), o3, o4, o5, o6] [] (n, sl, f) Q := by
  refine w_iconst (v := 0) cd_194_48 (by decide) ?_
  exact w_ireturn_z cd_194_49 (by decide +kernel) (by decide) h7
theorem b_194_50 {d : Nat} {Q : (Option Value ⊕ Nat) → mi_H → Prop} (n sl : Nat) (f : Nat → mi_C) {l1 : Nat} {l2 : Int32} {o3 : Option Value} {o4 : Option Value} {o5 : Option Value} {o6 : Option Value} {fs7 : List Value} {x10 : Nat} (m12 i12 : Nat) (g12 : Nat → Int32) {fs16 : List Value} (h8 : f l1 = .inr (12, fs7)) (h9 : l1 < n) (h11 : fs7[16]? = some (.ref x10)) (h13 : f x10 = .inl (0, m12, .inl g12)) (h14 : x10 < n ∨ x10 = mi_SC) (h15 : mi_ix l2 m12 i12) (h17 : f l1 = .inr (12, fs16)) (h18 : l1 < n) (h19 : mi_W d 195 0 (mi_en 2 [.ref l1, .int (g12 i12)]) [] (n, sl, f) (mi_Kc d 194 57 [some (.ref l1), some (.int l2), o3, o4, o5, o6] [] Q)) : mi_W (d + 1) 194 50 [some (.ref l1), some (.int l2), o3, o4, o5, o6] [] (n, sl, f) Q := by
  refine w_aload_n cd_194_50 rfl ?_
  refine w_aload_n cd_194_51 rfl ?_
  refine w_getfield cd_194_52 (show mt_f 12 89 = some (12, 16) by decide +kernel) h8 h9 h11 ?_
  refine w_iload_n cd_194_55 rfl ?_
  refine w_iaload cd_194_56 h13 h14 h15 ?_
  exact w_invokevirtual cd_194_57 (show mt_m 12 554 = some (195, 0) by decide +kernel) (rest := []) rfl (as := [.ref l1, .int (g12 i12)]) rfl h17 (Or.inl h18) ⟨Nat.le_of_ble_eq_true rfl, Nat.le_of_ble_eq_true rfl, Nat.le_of_ble_eq_true rfl⟩ h19
theorem b_194_60 {d : Nat} {Q : (Option Value ⊕ Nat) → mi_H → Prop} (n sl : Nat) (f : Nat → mi_C) {l1 : Nat} {l2 : Int32} {o3 : Option Value} {o4 : Option Value} {o5 : Option Value} {o6 : Option Value} {s7 : Int32} (h8 : ¬ s7 = (0 : Int32) → mi_W d 194 76 [some (.ref l1), some (.int l2), o3, o4, o5, o6] [] (n, sl, f) Q) (h9 : ¬ (¬ s7 = (0 : Int32)) → mi_W d 194 63 [some (.ref l1), some (.int l2), o3, o4, o5, o6] [] (n, sl, f) Q) : mi_W d 194 60 [some (.ref l1), some (.int l2), o3, o4, o5, o6] [.int s7] (n, sl, f) Q := by
  exact w_ifne cd_194_60 (by decide) h8 h9
theorem b_194_63 {d : Nat} {Q : (Option Value ⊕ Nat) → mi_H → Prop} (n sl : Nat) (f : Nat → mi_C) {l1 : Nat} {l2 : Int32} {o3 : Option Value} {o4 : Option Value} {o5 : Option Value} {o6 : Option Value} {fs7 : List Value} {x10 : Nat} (m12 i12 : Nat) (g12 : Nat → Int32) {fs16 : List Value} (h8 : f l1 = .inr (12, fs7)) (h9 : l1 < n) (h11 : fs7[19]? = some (.ref x10)) (h13 : f x10 = .inl (0, m12, .inl g12)) (h14 : x10 < n ∨ x10 = mi_SC) (h15 : mi_ix l2 m12 i12) (h17 : f l1 = .inr (12, fs16)) (h18 : l1 < n) (h19 : mi_W d 194 0 (mi_en 6 [.ref l1, .int (g12 i12)]) [] (n, sl, f) (mi_Kc d 194 70 [some (.ref l1), some (.int l2), o3, o4, o5, o6] [] Q)) : mi_W (d + 1) 194 63 [some (.ref l1), some (.int l2), o3, o4, o5, o6] [] (n, sl, f) Q := by
  refine w_aload_n cd_194_63 rfl ?_
  refine w_aload_n cd_194_64 rfl ?_
  refine w_getfield cd_194_65 (show mt_f 12 98 = some (12, 19) by decide +kernel) h8 h9 h11 ?_
  refine w_iload_n cd_194_68 rfl ?_
  refine w_iaload cd_194_69 h13 h14 h15 ?_
  exact w_invokevirtual cd_194_70 (show mt_m 12 557 = some (194, 0) by decide +kernel) (rest := []) rfl (as := [.ref l1, .int (g12 i12)]) rfl h17 (Or.inl h18) ⟨Nat.le_of_ble_eq_true rfl, Nat.le_of_ble_eq_true rfl, Nat.le_of_ble_eq_true rfl⟩ h19
theorem b_194_73 {d : Nat} {Q : (Option Value ⊕ Nat) → mi_H → Prop} (n sl : Nat) (f : Nat → mi_C) {l1 : Nat} {l2 : Int32} {o3 : Option Value} {o4 : Option Value} {o5 : Option Value} {o6 : Option Value} {s7 : Int32} (h8 : s7 = (0 : Int32) → mi_W d 194 80 [some (.ref l1), some (.int l2), o3, o4, o5, o6] [] (n, sl, f) Q) (h9 : ¬ (s7 = (0 : Int32)) → mi_W d 194 76 [some (.ref l1), some (.int l2), o3, o4, o5, o6] [] (n, sl, f) Q) : mi_W d 194 73 [some (.ref l1), some (.int l2), o3, o4, o5, o6] [.int s7] (n, sl, f) Q := by
  exact w_ifeq cd_194_73 (by decide) h8 h9
theorem b_194_76 {d : Nat} {Q : (Option Value ⊕ Nat) → mi_H → Prop} (n sl : Nat) (f : Nat → mi_C) {l1 : Nat} {l2 : Int32} {o3 : Option Value} {o4 : Option Value} {o5 : Option Value} {o6 : Option Value} (h7 : mi_W d 194 81 [some (.ref l1), some (.int l2), o3, o4, o5, o6] [.int 1] (n, sl, f) Q) : mi_W d 194 76 [some (.ref l1), some (.int l2), o3, o4, o5, o6] [] (n, sl, f) Q := by
  refine w_iconst (v := 1) cd_194_76 (by decide) ?_
  exact w_goto cd_194_77 (by decide) h7
theorem b_194_80 {d : Nat} {Q : (Option Value ⊕ Nat) → mi_H → Prop} (n sl : Nat) (f : Nat → mi_C) {l1 : Nat} {l2 : Int32} {o3 : Option Value} {o4 : Option Value} {o5 : Option Value} {o6 : Option Value} (h7 : mi_W d 194 81 [some (.ref l1), some (.int l2), o3, o4, o5, o6] [.int 0] (n, sl, f) Q) : mi_W d 194 80 [some (.ref l1), some (.int l2), o3, o4, o5, o6] [] (n, sl, f) Q := by
  refine w_iconst (v := 0) cd_194_80 (by decide) ?_
  exact h7
theorem b_194_81 {d : Nat} {Q : (Option Value ⊕ Nat) → mi_H → Prop} (n sl : Nat) (f : Nat → mi_C) {l1 : Nat} {l2 : Int32} {o3 : Option Value} {o4 : Option Value} {o5 : Option Value} {o6 : Option Value} {s7 : Int32} (h8 : s7 = 0 ∨ s7 = 1) (h9 : Q (.inl (some (.int s7))) (n, sl, f)) : mi_W d 194 81 [some (.ref l1), some (.int l2), o3, o4, o5, o6] [.int s7] (n, sl, f) Q := by
  exact w_ireturn_z cd_194_81 (by decide +kernel) h8 h9
theorem b_194_82 {d : Nat} {Q : (Option Value ⊕ Nat) → mi_H → Prop} (n sl : Nat) (f : Nat → mi_C) {l1 : Nat} {l2 : Int32} {o3 : Option Value} {o4 : Option Value} {o5 : Option Value} {o6 : Option Value} {fs7 : List Value} {x10 : Nat} (m12 i12 : Nat) (g12 : Nat → Int32) {fs16 : List Value} (h8 : f l1 = .inr (12, fs7)) (h9 : l1 < n) (h11 : fs7[16]? = some (.ref x10)) (h13 : f x10 = .inl (0, m12, .inl g12)) (h14 : x10 < n ∨ x10 = mi_SC) (h15 : mi_ix l2 m12 i12) (h17 : f l1 = .inr (12, fs16)) (h18 : l1 < n) (h19 : mi_W d 195 0 (mi_en 2 [.ref l1, .int (g12 i12)]) [] (n, sl, f) (mi_Kc d 194 89 [some (.ref l1), some (.int l2), o3, o4, o5, o6] [] Q)) : mi_W (d + 1) 194 82 [some (.ref l1), some (.int l2), o3, o4, o5, o6] [] (n, sl, f) Q := by
  refine w_aload_n cd_194_82 rfl ?_
  refine w_aload_n cd_194_83 rfl ?_
  refine w_getfield cd_194_84 (show mt_f 12 89 = some (12, 16) by decide +kernel) h8 h9 h11 ?_
  refine w_iload_n cd_194_87 rfl ?_
  refine w_iaload cd_194_88 h13 h14 h15 ?_
  exact w_invokevirtual cd_194_89 (show mt_m 12 554 = some (195, 0) by decide +kernel) (rest := []) rfl (as := [.ref l1, .int (g12 i12)]) rfl h17 (Or.inl h18) ⟨Nat.le_of_ble_eq_true rfl, Nat.le_of_ble_eq_true rfl, Nat.le_of_ble_eq_true rfl⟩ h19
theorem b_194_92 {d : Nat} {Q : (Option Value ⊕ Nat) → mi_H → Prop} (n sl : Nat) (f : Nat → mi_C) {l1 : Nat} {l2 : Int32} {o3 : Option Value} {o4 : Option Value} {o5 : Option Value} {o6 : Option Value} {s7 : Int32} (h8 : ¬ s7 = (0 : Int32) → mi_W d 194 121 [some (.ref l1), some (.int l2), o3, o4, o5, o6] [] (n, sl, f) Q) (h9 : ¬ (¬ s7 = (0 : Int32)) → mi_W d 194 95 [some (.ref l1), some (.int l2), o3, o4, o5, o6] [] (n, sl, f) Q) : mi_W d 194 92 [some (.ref l1), some (.int l2), o3, o4, o5, o6] [.int s7] (n, sl, f) Q := by
  exact w_ifne cd_194_92 (by decide) h8 h9
theorem b_194_95 {d : Nat} {Q : (Option Value ⊕ Nat) → mi_H → Prop} (n sl : Nat) (f : Nat → mi_C) {l1 : Nat} {l2 : Int32} {o3 : Option Value} {o4 : Option Value} {o5 : Option Value} {o6 : Option Value} {fs7 : List Value} {x10 : Nat} (m12 i12 : Nat) (g12 : Nat → Int32) {fs16 : List Value} (h8 : f l1 = .inr (12, fs7)) (h9 : l1 < n) (h11 : fs7[13]? = some (.ref x10)) (h13 : f x10 = .inl (0, m12, .inl g12)) (h14 : x10 < n ∨ x10 = mi_SC) (h15 : mi_ix l2 m12 i12) (h17 : f l1 = .inr (12, fs16)) (h18 : l1 < n) (h19 : mi_W d 194 0 (mi_en 6 [.ref l1, .int (g12 i12)]) [] (n, sl, f) (mi_Kc d 194 102 [some (.ref l1), some (.int l2), o3, o4, o5, o6] [] Q)) : mi_W (d + 1) 194 95 [some (.ref l1), some (.int l2), o3, o4, o5, o6] [] (n, sl, f) Q := by
  refine w_aload_n cd_194_95 rfl ?_
  refine w_aload_n cd_194_96 rfl ?_
  refine w_getfield cd_194_97 (show mt_f 12 80 = some (12, 13) by decide +kernel) h8 h9 h11 ?_
  refine w_iload_n cd_194_100 rfl ?_
  refine w_iaload cd_194_101 h13 h14 h15 ?_
  exact w_invokevirtual cd_194_102 (show mt_m 12 557 = some (194, 0) by decide +kernel) (rest := []) rfl (as := [.ref l1, .int (g12 i12)]) rfl h17 (Or.inl h18) ⟨Nat.le_of_ble_eq_true rfl, Nat.le_of_ble_eq_true rfl, Nat.le_of_ble_eq_true rfl⟩ h19
theorem b_194_105 {d : Nat} {Q : (Option Value ⊕ Nat) → mi_H → Prop} (n sl : Nat) (f : Nat → mi_C) {l1 : Nat} {l2 : Int32} {o3 : Option Value} {o4 : Option Value} {o5 : Option Value} {o6 : Option Value} {s7 : Int32} (h8 : ¬ s7 = (0 : Int32) → mi_W d 194 121 [some (.ref l1), some (.int l2), o3, o4, o5, o6] [] (n, sl, f) Q) (h9 : ¬ (¬ s7 = (0 : Int32)) → mi_W d 194 108 [some (.ref l1), some (.int l2), o3, o4, o5, o6] [] (n, sl, f) Q) : mi_W d 194 105 [some (.ref l1), some (.int l2), o3, o4, o5, o6] [.int s7] (n, sl, f) Q := by
  exact w_ifne cd_194_105 (by decide) h8 h9
theorem b_194_108 {d : Nat} {Q : (Option Value ⊕ Nat) → mi_H → Prop} (n sl : Nat) (f : Nat → mi_C) {l1 : Nat} {l2 : Int32} {o3 : Option Value} {o4 : Option Value} {o5 : Option Value} {o6 : Option Value} {fs7 : List Value} {x10 : Nat} (m12 i12 : Nat) (g12 : Nat → Int32) {fs16 : List Value} (h8 : f l1 = .inr (12, fs7)) (h9 : l1 < n) (h11 : fs7[14]? = some (.ref x10)) (h13 : f x10 = .inl (0, m12, .inl g12)) (h14 : x10 < n ∨ x10 = mi_SC) (h15 : mi_ix l2 m12 i12) (h17 : f l1 = .inr (12, fs16)) (h18 : l1 < n) (h19 : mi_W d 194 0 (mi_en 6 [.ref l1, .int (g12 i12)]) [] (n, sl, f) (mi_Kc d 194 115 [some (.ref l1), some (.int l2), o3, o4, o5, o6] [] Q)) : mi_W (d + 1) 194 108 [some (.ref l1), some (.int l2), o3, o4, o5, o6] [] (n, sl, f) Q := by
  refine w_aload_n cd_194_108 rfl ?_
  refine w_aload_n cd_194_109 rfl ?_
  refine w_getfield cd_194_110 (show mt_f 12 83 = some (12, 14) by decide +kernel) h8 h9 h11 ?_
  refine w_iload_n cd_194_113 rfl ?_
  refine w_iaload cd_194_114 h13 h14 h15 ?_
  exact w_invokevirtual cd_194_115 (show mt_m 12 557 = some (194, 0) by decide +kernel) (rest := []) rfl (as := [.ref l1, .int (g12 i12)]) rfl h17 (Or.inl h18) ⟨Nat.le_of_ble_eq_true rfl, Nat.le_of_ble_eq_true rfl, Nat.le_of_ble_eq_true rfl⟩ h19
theorem b_194_118 {d : Nat} {Q : (Option Value ⊕ Nat) → mi_H → Prop} (n sl : Nat) (f : Nat → mi_C) {l1 : Nat} {l2 : Int32} {o3 : Option Value} {o4 : Option Value} {o5 : Option Value} {o6 : Option Value} {s7 : Int32} (h8 : s7 = (0 : Int32) → mi_W d 194 125 [some (.ref l1), some (.int l2), o3, o4, o5, o6] [] (n, sl, f) Q) (h9 : ¬ (s7 = (0 : Int32)) → mi_W d 194 121 [some (.ref l1), some (.int l2), o3, o4, o5, o6] [] (n, sl, f) Q) : mi_W d 194 118 [some (.ref l1), some (.int l2), o3, o4, o5, o6] [.int s7] (n, sl, f) Q := by
  exact w_ifeq cd_194_118 (by decide) h8 h9
theorem b_194_121 {d : Nat} {Q : (Option Value ⊕ Nat) → mi_H → Prop} (n sl : Nat) (f : Nat → mi_C) {l1 : Nat} {l2 : Int32} {o3 : Option Value} {o4 : Option Value} {o5 : Option Value} {o6 : Option Value} (h7 : mi_W d 194 126 [some (.ref l1), some (.int l2), o3, o4, o5, o6] [.int 1] (n, sl, f) Q) : mi_W d 194 121 [some (.ref l1), some (.int l2), o3, o4, o5, o6] [] (n, sl, f) Q := by
  refine w_iconst (v := 1) cd_194_121 (by decide) ?_
  exact w_goto cd_194_122 (by decide) h7
theorem b_194_125 {d : Nat} {Q : (Option Value ⊕ Nat) → mi_H → Prop} (n sl : Nat) (f : Nat → mi_C) {l1 : Nat} {l2 : Int32} {o3 : Option Value} {o4 : Option Value} {o5 : Option Value} {o6 : Option Value} (h7 : mi_W d 194 126 [some (.ref l1), some (.int l2), o3, o4, o5, o6] [.int 0] (n, sl, f) Q) : mi_W d 194 125 [some (.ref l1), some (.int l2), o3, o4, o5, o6] [] (n, sl, f) Q := by
  refine w_iconst (v := 0) cd_194_125 (by decide) ?_
  exact h7
theorem b_194_126 {d : Nat} {Q : (Option Value ⊕ Nat) → mi_H → Prop} (n sl : Nat) (f : Nat → mi_C) {l1 : Nat} {l2 : Int32} {o3 : Option Value} {o4 : Option Value} {o5 : Option Value} {o6 : Option Value} {s7 : Int32} (h8 : s7 = 0 ∨ s7 = 1) (h9 : Q (.inl (some (.int s7))) (n, sl, f)) : mi_W d 194 126 [some (.ref l1), some (.int l2), o3, o4, o5, o6] [.int s7] (n, sl, f) Q := by
  exact w_ireturn_z cd_194_126 (by decide +kernel) h8 h9
theorem b_194_127 {d : Nat} {Q : (Option Value ⊕ Nat) → mi_H → Prop} (n sl : Nat) (f : Nat → mi_C) {l1 : Nat} {l2 : Int32} {o3 : Option Value} {o4 : Option Value} {o5 : Option Value} {o6 : Option Value} {fs7 : List Value} {x10 : Nat} (m12 i12 : Nat) (g12 : Nat → Int32) (h8 : f l1 = .inr (12, fs7)) (h9 : l1 < n) (h11 : fs7[17]? = some (.ref x10)) (h13 : f x10 = .inl (0, m12, .inl g12)) (h14 : x10 < n ∨ x10 = mi_SC) (h15 : mi_ix l2 m12 i12) (h16 : mi_W d 194 134 [some (.ref l1), some (.int l2), some (.int (g12 i12)), o4, o5, o6] [] (n, sl, f) Q) : mi_W d 194 127 [some (.ref l1), some (.int l2), o3, o4, o5, o6] [] (n, sl, f) Q := by
  refine w_aload_n cd_194_127 rfl ?_
  refine w_getfield cd_194_128 (show mt_f 12 92 = some (12, 17) by decide +kernel) h8 h9 h11 ?_
  refine w_iload_n cd_194_131 rfl ?_
  refine w_iaload cd_194_132 h13 h14 h15 ?_
  refine w_istore_n (ls' := [some (.ref l1), some (.int l2), some (.int (g12 i12)), o4, o5, o6]) cd_194_133 (Nat.le_of_ble_eq_true rfl) rfl ?_
  exact h16
theorem b_194_134 {d : Nat} {Q : (Option Value ⊕ Nat) → mi_H → Prop} (n sl : Nat) (f : Nat → mi_C) {l1 : Nat} {l2 : Int32} {l3 : Int32} {o4 : Option Value} {o5 : Option Value} {o6 : Option Value} (h7 : l3 < (0 : Int32) → mi_W d 194 273 [some (.ref l1), some (.int l2), some (.int l3), o4, o5, o6] [] (n, sl, f) Q) (h8 : ¬ (l3 < (0 : Int32)) → mi_W d 194 138 [some (.ref l1), some (.int l2), some (.int l3), o4, o5, o6] [] (n, sl, f) Q) : mi_W d 194 134 [some (.ref l1), some (.int l2), some (.int l3), o4, o5, o6] [] (n, sl, f) Q := by
  refine w_iload_n cd_194_134 rfl ?_
  exact w_iflt cd_194_135 (by decide) h7 h8
theorem b_194_138 {d : Nat} {Q : (Option Value ⊕ Nat) → mi_H → Prop} (n sl : Nat) (f : Nat → mi_C) {l1 : Nat} {l2 : Int32} {l3 : Int32} {o4 : Option Value} {o5 : Option Value} {o6 : Option Value} {fs7 : List Value} {x10 : Nat} (m12 i12 : Nat) (g12 : Nat → Int32) (h8 : f l1 = .inr (12, fs7)) (h9 : l1 < n) (h11 : fs7[12]? = some (.ref x10)) (h13 : f x10 = .inl (0, m12, .inl g12)) (h14 : x10 < n ∨ x10 = mi_SC) (h15 : mi_ix l3 m12 i12) (h16 : (g12 i12) = 8 → mi_W d 194 162 [some (.ref l1), some (.int l2), some (.int l3), o4, o5, o6] [] (n, sl, f) Q) (h17 : ¬ ((g12 i12) = 8) → mi_W d 194 149 [some (.ref l1), some (.int l2), some (.int l3), o4, o5, o6] [] (n, sl, f) Q) : mi_W d 194 138 [some (.ref l1), some (.int l2), some (.int l3), o4, o5, o6] [] (n, sl, f) Q := by
  refine w_aload_n cd_194_138 rfl ?_
  refine w_getfield cd_194_139 (show mt_f 12 77 = some (12, 12) by decide +kernel) h8 h9 h11 ?_
  refine w_iload_n cd_194_142 rfl ?_
  refine w_iaload cd_194_143 h13 h14 h15 ?_
  refine w_bipush (v := 8) cd_194_144 (by decide) ?_
  exact w_if_icmpeq cd_194_146 (by decide) h16 h17
theorem b_194_149 {d : Nat} {Q : (Option Value ⊕ Nat) → mi_H → Prop} (n sl : Nat) (f : Nat → mi_C) {l1 : Nat} {l2 : Int32} {l3 : Int32} {o4 : Option Value} {o5 : Option Value} {o6 : Option Value} {fs7 : List Value} {x10 : Nat} (m12 i12 : Nat) (g12 : Nat → Int32) {fs16 : List Value} (h8 : f l1 = .inr (12, fs7)) (h9 : l1 < n) (h11 : fs7[16]? = some (.ref x10)) (h13 : f x10 = .inl (0, m12, .inl g12)) (h14 : x10 < n ∨ x10 = mi_SC) (h15 : mi_ix l3 m12 i12) (h17 : f l1 = .inr (12, fs16)) (h18 : l1 < n) (h19 : mi_W d 195 0 (mi_en 2 [.ref l1, .int (g12 i12)]) [] (n, sl, f) (mi_Kc d 194 156 [some (.ref l1), some (.int l2), some (.int l3), o4, o5, o6] [] Q)) : mi_W (d + 1) 194 149 [some (.ref l1), some (.int l2), some (.int l3), o4, o5, o6] [] (n, sl, f) Q := by
  refine w_aload_n cd_194_149 rfl ?_
  refine w_aload_n cd_194_150 rfl ?_
  refine w_getfield cd_194_151 (show mt_f 12 89 = some (12, 16) by decide +kernel) h8 h9 h11 ?_
  refine w_iload_n cd_194_154 rfl ?_
  refine w_iaload cd_194_155 h13 h14 h15 ?_
  exact w_invokevirtual cd_194_156 (show mt_m 12 554 = some (195, 0) by decide +kernel) (rest := []) rfl (as := [.ref l1, .int (g12 i12)]) rfl h17 (Or.inl h18) ⟨Nat.le_of_ble_eq_true rfl, Nat.le_of_ble_eq_true rfl, Nat.le_of_ble_eq_true rfl⟩ h19
theorem b_194_159 {d : Nat} {Q : (Option Value ⊕ Nat) → mi_H → Prop} (n sl : Nat) (f : Nat → mi_C) {l1 : Nat} {l2 : Int32} {l3 : Int32} {o4 : Option Value} {o5 : Option Value} {o6 : Option Value} {s7 : Int32} (h8 : ¬ s7 = (0 : Int32) → mi_W d 194 175 [some (.ref l1), some (.int l2), some (.int l3), o4, o5, o6] [] (n, sl, f) Q) (h9 : ¬ (¬ s7 = (0 : Int32)) → mi_W d 194 162 [some (.ref l1), some (.int l2), some (.int l3), o4, o5, o6] [] (n, sl, f) Q) : mi_W d 194 159 [some (.ref l1), some (.int l2), some (.int l3), o4, o5, o6] [.int s7] (n, sl, f) Q := by
  exact w_ifne cd_194_159 (by decide) h8 h9
theorem b_194_162 {d : Nat} {Q : (Option Value ⊕ Nat) → mi_H → Prop} (n sl : Nat) (f : Nat → mi_C) {l1 : Nat} {l2 : Int32} {l3 : Int32} {o4 : Option Value} {o5 : Option Value} {o6 : Option Value} {fs7 : List Value} {x10 : Nat} (m12 i12 : Nat) (g12 : Nat → Int32) {fs16 : List Value} (h8 : f l1 = .inr (12, fs7)) (h9 : l1 < n) (h11 : fs7[19]? = some (.ref x10)) (h13 : f x10 = .inl (0, m12, .inl g12)) (h14 : x10 < n ∨ x10 = mi_SC) (h15 : mi_ix l3 m12 i12) (h17 : f l1 = .inr (12, fs16)) (h18 : l1 < n) (h19 : mi_W d 194 0 (mi_en 6 [.ref l1, .int (g12 i12)]) [] (n, sl, f) (mi_Kc d 194 169 [some (.ref l1), some (.int l2), some (.int l3), o4, o5, o6] [] Q)) : mi_W (d + 1) 194 162 [some (.ref l1), some (.int l2), some (.int l3), o4, o5, o6] [] (n, sl, f) Q := by
  refine w_aload_n cd_194_162 rfl ?_
  refine w_aload_n cd_194_163 rfl ?_
  refine w_getfield cd_194_164 (show mt_f 12 98 = some (12, 19) by decide +kernel) h8 h9 h11 ?_
  refine w_iload_n cd_194_167 rfl ?_
  refine w_iaload cd_194_168 h13 h14 h15 ?_
  exact w_invokevirtual cd_194_169 (show mt_m 12 557 = some (194, 0) by decide +kernel) (rest := []) rfl (as := [.ref l1, .int (g12 i12)]) rfl h17 (Or.inl h18) ⟨Nat.le_of_ble_eq_true rfl, Nat.le_of_ble_eq_true rfl, Nat.le_of_ble_eq_true rfl⟩ h19
theorem b_194_172 {d : Nat} {Q : (Option Value ⊕ Nat) → mi_H → Prop} (n sl : Nat) (f : Nat → mi_C) {l1 : Nat} {l2 : Int32} {l3 : Int32} {o4 : Option Value} {o5 : Option Value} {o6 : Option Value} {s7 : Int32} (h8 : s7 = (0 : Int32) → mi_W d 194 177 [some (.ref l1), some (.int l2), some (.int l3), o4, o5, o6] [] (n, sl, f) Q) (h9 : ¬ (s7 = (0 : Int32)) → mi_W d 194 175 [some (.ref l1), some (.int l2), some (.int l3), o4, o5, o6] [] (n, sl, f) Q) : mi_W d 194 172 [some (.ref l1), some (.int l2), some (.int l3), o4, o5, o6] [.int s7] (n, sl, f) Q := by
  exact w_ifeq cd_194_172 (by decide) h8 h9
theorem b_194_175 {d : Nat} {Q : (Option Value ⊕ Nat) → mi_H → Prop} (n sl : Nat) (f : Nat → mi_C) {l1 : Nat} {l2 : Int32} {l3 : Int32} {o4 : Option Value} {o5 : Option Value} {o6 : Option Value} (h7 : Q (.inl (some (.int 1))) (n, sl, f)) : mi_W d 194 175 [some (.ref l1), some (.int l2), some (.int l3), o4, o5, o6] [] (n, sl, f) Q := by
  refine w_iconst (v := 1) cd_194_175 (by decide) ?_
  exact w_ireturn_z cd_194_176 (by decide +kernel) (by decide) h7
theorem b_194_177 {d : Nat} {Q : (Option Value ⊕ Nat) → mi_H → Prop} (n sl : Nat) (f : Nat → mi_C) {l1 : Nat} {l2 : Int32} {l3 : Int32} {o4 : Option Value} {o5 : Option Value} {o6 : Option Value} {fs7 : List Value} {x10 : Nat} (m12 i12 : Nat) (g12 : Nat → Int32) (h8 : f l1 = .inr (12, fs7)) (h9 : l1 < n) (h11 : fs7[12]? = some (.ref x10)) (h13 : f x10 = .inl (0, m12, .inl g12)) (h14 : x10 < n ∨ x10 = mi_SC) (h15 : mi_ix l3 m12 i12) (h16 : (g12 i12) = 8 → mi_W d 194 191 [some (.ref l1), some (.int l2), some (.int l3), o4, o5, o6] [] (n, sl, f) Q) (h17 : ¬ ((g12 i12) = 8) → mi_W d 194 188 [some (.ref l1), some (.int l2), some (.int l3), o4, o5, o6] [] (n, sl, f) Q) : mi_W d 194 177 [some (.ref l1), some (.int l2), some (.int l3), o4, o5, o6] [] (n, sl, f) Q := by
  refine w_aload_n cd_194_177 rfl ?_
  refine w_getfield cd_194_178 (show mt_f 12 77 = some (12, 12) by decide +kernel) h8 h9 h11 ?_
  refine w_iload_n cd_194_181 rfl ?_
  refine w_iaload cd_194_182 h13 h14 h15 ?_
  refine w_bipush (v := 8) cd_194_183 (by decide) ?_
  exact w_if_icmpeq cd_194_185 (by decide) h16 h17
theorem b_194_188 {d : Nat} {Q : (Option Value ⊕ Nat) → mi_H → Prop} (n sl : Nat) (f : Nat → mi_C) {l1 : Nat} {l2 : Int32} {l3 : Int32} {o4 : Option Value} {o5 : Option Value} {o6 : Option Value} (h7 : mi_W d 194 263 [some (.ref l1), some (.int l2), some (.int l3), o4, o5, o6] [] (n, sl, f) Q) : mi_W d 194 188 [some (.ref l1), some (.int l2), some (.int l3), o4, o5, o6] [] (n, sl, f) Q := by
  exact w_goto cd_194_188 (by decide) h7
theorem b_194_191 {d : Nat} {Q : (Option Value ⊕ Nat) → mi_H → Prop} (n sl : Nat) (f : Nat → mi_C) {l1 : Nat} {l2 : Int32} {l3 : Int32} {o4 : Option Value} {o5 : Option Value} {o6 : Option Value} {fs7 : List Value} {x10 : Nat} (m12 i12 : Nat) (g12 : Nat → Int32) (h8 : f l1 = .inr (12, fs7)) (h9 : l1 < n) (h11 : fs7[40]? = some (.ref x10)) (h13 : f x10 = .inl (0, m12, .inl g12)) (h14 : x10 < n ∨ x10 = mi_SC) (h15 : mi_ix l3 m12 i12) (h16 : mi_W d 194 201 [some (.ref l1), some (.int l2), some (.int l3), some (.long 0), none, some (.int (g12 i12))] [] (n, sl, f) Q) : mi_W d 194 191 [some (.ref l1), some (.int l2), some (.int l3), o4, o5, o6] [] (n, sl, f) Q := by
  refine w_lconst (lv := 0) cd_194_191 (by decide) ?_
  refine w_lstore_n (ls' := [some (.ref l1), some (.int l2), some (.int l3), some (.long 0), none, o6]) cd_194_192 (Nat.le_of_ble_eq_true rfl) rfl ?_
  refine w_aload_n cd_194_193 rfl ?_
  refine w_getfield cd_194_194 (show mt_f 12 141 = some (12, 40) by decide +kernel) h8 h9 h11 ?_
  refine w_iload_n cd_194_197 rfl ?_
  refine w_iaload cd_194_198 h13 h14 h15 ?_
  refine w_istore (ls' := [some (.ref l1), some (.int l2), some (.int l3), some (.long 0), none, some (.int (g12 i12))]) cd_194_199 (Nat.le_of_ble_eq_true rfl) rfl ?_
  exact h16
theorem b_194_201 {d : Nat} {Q : (Option Value ⊕ Nat) → mi_H → Prop} (n sl : Nat) (f : Nat → mi_C) {l1 : Nat} {l2 : Int32} {l3 : Int32} {l4 : Int64} {l5 : Int32} {fs6 : List Value} {x9 : Nat} (m11 i11 : Nat) (g11 : Nat → Int32) {fs15 : List Value} {x18 : Nat} (m20 i20 : Nat) (g20 : Nat → Int32) (h7 : f l1 = .inr (12, fs6)) (h8 : l1 < n) (h10 : fs6[40]? = some (.ref x9)) (h12 : f x9 = .inl (0, m11, .inl g11)) (h13 : x9 < n ∨ x9 = mi_SC) (h14 : mi_ix l3 m11 i11) (h16 : f l1 = .inr (12, fs15)) (h17 : l1 < n) (h19 : fs15[18]? = some (.ref x18)) (h21 : f x18 = .inl (0, m20, .inl g20)) (h22 : x18 < n ∨ x18 = mi_SC) (h23 : mi_ix l3 m20 i20) (h24 : ((g11 i11) + (g20 i20)) ≤ l5 → mi_W d 194 253 [some (.ref l1), some (.int l2), some (.int l3), some (.long l4), none, some (.int l5)] [] (n, sl, f) Q) (h25 : ¬ (((g11 i11) + (g20 i20)) ≤ l5) → mi_W d 194 219 [some (.ref l1), some (.int l2), some (.int l3), some (.long l4), none, some (.int l5)] [] (n, sl, f) Q) : mi_W d 194 201 [some (.ref l1), some (.int l2), some (.int l3), some (.long l4), none, some (.int l5)] [] (n, sl, f) Q := by
  refine w_iload cd_194_201 rfl ?_
  refine w_aload_n cd_194_203 rfl ?_
  refine w_getfield cd_194_204 (show mt_f 12 141 = some (12, 40) by decide +kernel) h7 h8 h10 ?_
  refine w_iload_n cd_194_207 rfl ?_
  refine w_iaload cd_194_208 h12 h13 h14 ?_
  refine w_aload_n cd_194_209 rfl ?_
  refine w_getfield cd_194_210 (show mt_f 12 95 = some (12, 18) by decide +kernel) h16 h17 h19 ?_
  refine w_iload_n cd_194_213 rfl ?_
  refine w_iaload cd_194_214 h21 h22 h23 ?_
  refine w_iadd cd_194_215 ?_
  exact w_if_icmpge cd_194_216 (by decide) h24 h25
theorem b_194_219 {d : Nat} {Q : (Option Value ⊕ Nat) → mi_H → Prop} (n sl : Nat) (f : Nat → mi_C) {l1 : Nat} {l2 : Int32} {l3 : Int32} {l4 : Int64} {l5 : Int32} (h6 : (0 : Int32) < (lg_cmp l4 16) → mi_W d 194 253 [some (.ref l1), some (.int l2), some (.int l3), some (.long l4), none, some (.int l5)] [] (n, sl, f) Q) (h7 : ¬ ((0 : Int32) < (lg_cmp l4 16)) → mi_W d 194 227 [some (.ref l1), some (.int l2), some (.int l3), some (.long l4), none, some (.int l5)] [] (n, sl, f) Q) : mi_W d 194 219 [some (.ref l1), some (.int l2), some (.int l3), some (.long l4), none, some (.int l5)] [] (n, sl, f) Q := by
  refine w_lload_n cd_194_219 rfl ?_
  refine w_ldc2_w (lv := 16) cd_194_220 (by decide +kernel) ?_
  refine w_lcmp cd_194_223 ?_
  exact w_ifgt cd_194_224 (by decide) h6 h7
theorem b_194_227 {d : Nat} {Q : (Option Value ⊕ Nat) → mi_H → Prop} (n sl : Nat) (f : Nat → mi_C) {l1 : Nat} {l2 : Int32} {l3 : Int32} {l4 : Int64} {l5 : Int32} {fs6 : List Value} {x9 : Nat} (m11 i11 : Nat) (g11 : Nat → Int64) {fs15 : List Value} {x18 : Nat} (m20 i20 : Nat) (g20 : Nat → Int64) (h7 : f l1 = .inr (12, fs6)) (h8 : l1 < n) (h10 : fs6[29]? = some (.ref x9)) (h12 : f x9 = .inl (3, m11, .inr (.inl g11))) (h13 : x9 < n) (h14 : mi_ix l5 m11 i11) (h16 : f l1 = .inr (12, fs15)) (h17 : l1 < n) (h19 : fs15[28]? = some (.ref x18)) (h21 : f x18 = .inl (3, m20, .inr (.inl g20))) (h22 : x18 < n) (h23 : mi_ix l5 m20 i20) (h24 : mi_W d 194 201 [some (.ref l1), some (.int l2), some (.int l3), some (.long (l4 + (((g11 i11) - (g20 i20)) + 1))), none, some (.int (l5 + 1))] [] (n, sl, f) Q) : mi_W d 194 227 [some (.ref l1), some (.int l2), some (.int l3), some (.long l4), none, some (.int l5)] [] (n, sl, f) Q := by
  refine w_lload_n cd_194_227 rfl ?_
  refine w_aload_n cd_194_228 rfl ?_
  refine w_getfield cd_194_229 (show mt_f 12 108 = some (12, 29) by decide +kernel) h7 h8 h10 ?_
  refine w_iload cd_194_232 rfl ?_
  refine w_laload cd_194_234 h12 h13 h14 ?_
  refine w_aload_n cd_194_235 rfl ?_
  refine w_getfield cd_194_236 (show mt_f 12 105 = some (12, 28) by decide +kernel) h16 h17 h19 ?_
  refine w_iload cd_194_239 rfl ?_
  refine w_laload cd_194_241 h21 h22 h23 ?_
  refine w_lsub cd_194_242 ?_
  refine w_lconst (lv := 1) cd_194_243 (by decide) ?_
  refine w_ladd cd_194_244 ?_
  refine w_ladd cd_194_245 ?_
  refine w_lstore_n (ls' := [some (.ref l1), some (.int l2), some (.int l3), some (.long (l4 + (((g11 i11) - (g20 i20)) + 1))), none, some (.int l5)]) cd_194_246 (Nat.le_of_ble_eq_true rfl) rfl ?_
  refine w_iinc (v := 1) (ls' := [some (.ref l1), some (.int l2), some (.int l3), some (.long (l4 + (((g11 i11) - (g20 i20)) + 1))), none, some (.int (l5 + 1))]) cd_194_247 rfl (by decide) rfl ?_
  exact w_goto cd_194_250 (by decide) h24
theorem b_194_253 {d : Nat} {Q : (Option Value ⊕ Nat) → mi_H → Prop} (n sl : Nat) (f : Nat → mi_C) {l1 : Nat} {l2 : Int32} {l3 : Int32} {l4 : Int64} {l5 : Int32} (h6 : (lg_cmp l4 16) ≤ (0 : Int32) → mi_W d 194 263 [some (.ref l1), some (.int l2), some (.int l3), some (.long l4), none, some (.int l5)] [] (n, sl, f) Q) (h7 : ¬ ((lg_cmp l4 16) ≤ (0 : Int32)) → mi_W d 194 261 [some (.ref l1), some (.int l2), some (.int l3), some (.long l4), none, some (.int l5)] [] (n, sl, f) Q) : mi_W d 194 253 [some (.ref l1), some (.int l2), some (.int l3), some (.long l4), none, some (.int l5)] [] (n, sl, f) Q := by
  refine w_lload_n cd_194_253 rfl ?_
  refine w_ldc2_w (lv := 16) cd_194_254 (by decide +kernel) ?_
  refine w_lcmp cd_194_257 ?_
  exact w_ifle cd_194_258 (by decide) h6 h7
theorem b_194_261 {d : Nat} {Q : (Option Value ⊕ Nat) → mi_H → Prop} (n sl : Nat) (f : Nat → mi_C) {l1 : Nat} {l2 : Int32} {l3 : Int32} {l4 : Int64} {l5 : Int32} (h6 : Q (.inl (some (.int 1))) (n, sl, f)) : mi_W d 194 261 [some (.ref l1), some (.int l2), some (.int l3), some (.long l4), none, some (.int l5)] [] (n, sl, f) Q := by
  refine w_iconst (v := 1) cd_194_261 (by decide) ?_
  exact w_ireturn_z cd_194_262 (by decide +kernel) (by decide) h6
theorem b_194_263 {d : Nat} {Q : (Option Value ⊕ Nat) → mi_H → Prop} (n sl : Nat) (f : Nat → mi_C) {l1 : Nat} {l2 : Int32} {l3 : Int32} {o4 : Option Value} {o5 : Option Value} {o6 : Option Value} {fs7 : List Value} {x10 : Nat} (m12 i12 : Nat) (g12 : Nat → Int32) (h8 : f l1 = .inr (12, fs7)) (h9 : l1 < n) (h11 : fs7[39]? = some (.ref x10)) (h13 : f x10 = .inl (0, m12, .inl g12)) (h14 : x10 < n ∨ x10 = mi_SC) (h15 : mi_ix l3 m12 i12) (h16 : mi_W d 194 134 [some (.ref l1), some (.int l2), some (.int (g12 i12)), o4, o5, o6] [] (n, sl, f) Q) : mi_W d 194 263 [some (.ref l1), some (.int l2), some (.int l3), o4, o5, o6] [] (n, sl, f) Q := by
  refine w_aload_n cd_194_263 rfl ?_
  refine w_getfield cd_194_264 (show mt_f 12 138 = some (12, 39) by decide +kernel) h8 h9 h11 ?_
  refine w_iload_n cd_194_267 rfl ?_
  refine w_iaload cd_194_268 h13 h14 h15 ?_
  refine w_istore_n (ls' := [some (.ref l1), some (.int l2), some (.int (g12 i12)), o4, o5, o6]) cd_194_269 (Nat.le_of_ble_eq_true rfl) rfl ?_
  exact w_goto cd_194_270 (by decide) h16
theorem b_194_273 {d : Nat} {Q : (Option Value ⊕ Nat) → mi_H → Prop} (n sl : Nat) (f : Nat → mi_C) {l1 : Nat} {l2 : Int32} {l3 : Int32} {o4 : Option Value} {o5 : Option Value} {o6 : Option Value} {fs7 : List Value} {x10 : Nat} (m12 i12 : Nat) (g12 : Nat → Int32) {fs16 : List Value} (h8 : f l1 = .inr (12, fs7)) (h9 : l1 < n) (h11 : fs7[19]? = some (.ref x10)) (h13 : f x10 = .inl (0, m12, .inl g12)) (h14 : x10 < n ∨ x10 = mi_SC) (h15 : mi_ix l2 m12 i12) (h17 : f l1 = .inr (12, fs16)) (h18 : l1 < n) (h19 : mi_W d 194 0 (mi_en 6 [.ref l1, .int (g12 i12)]) [] (n, sl, f) (mi_Kc d 194 280 [some (.ref l1), some (.int l2), some (.int l3), o4, o5, o6] [] Q)) : mi_W (d + 1) 194 273 [some (.ref l1), some (.int l2), some (.int l3), o4, o5, o6] [] (n, sl, f) Q := by
  refine w_aload_n cd_194_273 rfl ?_
  refine w_aload_n cd_194_274 rfl ?_
  refine w_getfield cd_194_275 (show mt_f 12 98 = some (12, 19) by decide +kernel) h8 h9 h11 ?_
  refine w_iload_n cd_194_278 rfl ?_
  refine w_iaload cd_194_279 h13 h14 h15 ?_
  exact w_invokevirtual cd_194_280 (show mt_m 12 557 = some (194, 0) by decide +kernel) (rest := []) rfl (as := [.ref l1, .int (g12 i12)]) rfl h17 (Or.inl h18) ⟨Nat.le_of_ble_eq_true rfl, Nat.le_of_ble_eq_true rfl, Nat.le_of_ble_eq_true rfl⟩ h19
theorem b_194_283 {d : Nat} {Q : (Option Value ⊕ Nat) → mi_H → Prop} (n sl : Nat) (f : Nat → mi_C) {l1 : Nat} {l2 : Int32} {l3 : Int32} {o4 : Option Value} {o5 : Option Value} {o6 : Option Value} {s7 : Int32} (h8 : s7 = 0 ∨ s7 = 1) (h9 : Q (.inl (some (.int s7))) (n, sl, f)) : mi_W d 194 283 [some (.ref l1), some (.int l2), some (.int l3), o4, o5, o6] [.int s7] (n, sl, f) Q := by
  exact w_ireturn_z cd_194_283 (by decide +kernel) h8 h9
/-! MarloweHostModel.timed(I)Z -/
theorem cd_195_0 : mt_cd 195 0 = some (.aload_n 0) := by decide +kernel
theorem cd_195_1 : mt_cd 195 1 = some (.getfield 77) := by decide +kernel
theorem cd_195_4 : mt_cd 195 4 = some (.iload_n 1) := by decide +kernel
theorem cd_195_5 : mt_cd 195 5 = some (.iaload) := by decide +kernel
theorem cd_195_6 : mt_cd 195 6 = some (.tableswitch 188 12 32 #[100, 156, 156, 156, 156, 188, 188, 98, 98, 111, 188, 188, 156, 156, 100, 188, 156, 156, 156, 156, 156]) := by decide +kernel
theorem cd_195_104 : mt_cd 195 104 = some (.iconst 1) := by decide +kernel
theorem cd_195_105 : mt_cd 195 105 = some (.ireturn) := by decide +kernel
theorem cd_195_106 : mt_cd 195 106 = some (.aload_n 0) := by decide +kernel
theorem cd_195_107 : mt_cd 195 107 = some (.aload_n 0) := by decide +kernel
theorem cd_195_108 : mt_cd 195 108 = some (.getfield 80) := by decide +kernel
theorem cd_195_111 : mt_cd 195 111 = some (.iload_n 1) := by decide +kernel
theorem cd_195_112 : mt_cd 195 112 = some (.iaload) := by decide +kernel
theorem cd_195_113 : mt_cd 195 113 = some (.invokevirtual 554) := by decide +kernel
theorem cd_195_116 : mt_cd 195 116 = some (.ireturn) := by decide +kernel
theorem cd_195_117 : mt_cd 195 117 = some (.aload_n 0) := by decide +kernel
theorem cd_195_118 : mt_cd 195 118 = some (.aload_n 0) := by decide +kernel
theorem cd_195_119 : mt_cd 195 119 = some (.getfield 89) := by decide +kernel
theorem cd_195_122 : mt_cd 195 122 = some (.iload_n 1) := by decide +kernel
theorem cd_195_123 : mt_cd 195 123 = some (.iaload) := by decide +kernel
theorem cd_195_124 : mt_cd 195 124 = some (.invokevirtual 554) := by decide +kernel
theorem cd_195_127 : mt_cd 195 127 = some (.ifCond .ne 29) := by decide +kernel
theorem cd_195_130 : mt_cd 195 130 = some (.aload_n 0) := by decide +kernel
theorem cd_195_131 : mt_cd 195 131 = some (.aload_n 0) := by decide +kernel
theorem cd_195_132 : mt_cd 195 132 = some (.getfield 80) := by decide +kernel
theorem cd_195_135 : mt_cd 195 135 = some (.iload_n 1) := by decide +kernel
theorem cd_195_136 : mt_cd 195 136 = some (.iaload) := by decide +kernel
theorem cd_195_137 : mt_cd 195 137 = some (.invokevirtual 554) := by decide +kernel
theorem cd_195_140 : mt_cd 195 140 = some (.ifCond .ne 16) := by decide +kernel
theorem cd_195_143 : mt_cd 195 143 = some (.aload_n 0) := by decide +kernel
theorem cd_195_144 : mt_cd 195 144 = some (.aload_n 0) := by decide +kernel
theorem cd_195_145 : mt_cd 195 145 = some (.getfield 83) := by decide +kernel
theorem cd_195_148 : mt_cd 195 148 = some (.iload_n 1) := by decide +kernel
theorem cd_195_149 : mt_cd 195 149 = some (.iaload) := by decide +kernel
theorem cd_195_150 : mt_cd 195 150 = some (.invokevirtual 554) := by decide +kernel
theorem cd_195_153 : mt_cd 195 153 = some (.ifCond .eq 7) := by decide +kernel
theorem cd_195_156 : mt_cd 195 156 = some (.iconst 1) := by decide +kernel
theorem cd_195_157 : mt_cd 195 157 = some (.goto 4) := by decide +kernel
theorem cd_195_160 : mt_cd 195 160 = some (.iconst 0) := by decide +kernel
theorem cd_195_161 : mt_cd 195 161 = some (.ireturn) := by decide +kernel
theorem cd_195_162 : mt_cd 195 162 = some (.aload_n 0) := by decide +kernel
theorem cd_195_163 : mt_cd 195 163 = some (.aload_n 0) := by decide +kernel
theorem cd_195_164 : mt_cd 195 164 = some (.getfield 80) := by decide +kernel
theorem cd_195_167 : mt_cd 195 167 = some (.iload_n 1) := by decide +kernel
theorem cd_195_168 : mt_cd 195 168 = some (.iaload) := by decide +kernel
theorem cd_195_169 : mt_cd 195 169 = some (.invokevirtual 554) := by decide +kernel
theorem cd_195_172 : mt_cd 195 172 = some (.ifCond .ne 16) := by decide +kernel
theorem cd_195_175 : mt_cd 195 175 = some (.aload_n 0) := by decide +kernel
theorem cd_195_176 : mt_cd 195 176 = some (.aload_n 0) := by decide +kernel
theorem cd_195_177 : mt_cd 195 177 = some (.getfield 83) := by decide +kernel
theorem cd_195_180 : mt_cd 195 180 = some (.iload_n 1) := by decide +kernel
theorem cd_195_181 : mt_cd 195 181 = some (.iaload) := by decide +kernel
theorem cd_195_182 : mt_cd 195 182 = some (.invokevirtual 554) := by decide +kernel
theorem cd_195_185 : mt_cd 195 185 = some (.ifCond .eq 7) := by decide +kernel
theorem cd_195_188 : mt_cd 195 188 = some (.iconst 1) := by decide +kernel
theorem cd_195_189 : mt_cd 195 189 = some (.goto 4) := by decide +kernel
theorem cd_195_192 : mt_cd 195 192 = some (.iconst 0) := by decide +kernel
theorem cd_195_193 : mt_cd 195 193 = some (.ireturn) := by decide +kernel
theorem cd_195_194 : mt_cd 195 194 = some (.iconst 0) := by decide +kernel
theorem cd_195_195 : mt_cd 195 195 = some (.ireturn) := by decide +kernel
theorem b_195_0 {d : Nat} {Q : (Option Value ⊕ Nat) → mi_H → Prop} (n sl : Nat) (f : Nat → mi_C) {l1 : Nat} {l2 : Int32} {fs3 : List Value} {x6 : Nat} (m8 i8 : Nat) (g8 : Nat → Int32) {t12 : Nat} (h4 : f l1 = .inr (12, fs3)) (h5 : l1 < n) (h7 : fs3[12]? = some (.ref x6)) (h9 : f x6 = .inl (0, m8, .inl g8)) (h10 : x6 < n ∨ x6 = mi_SC) (h11 : mi_ix l2 m8 i8) (h13 : mi_ts 6 188 12 32 #[100, 156, 156, 156, 156, 188, 188, 98, 98, 111, 188, 188, 156, 156, 100, 188, 156, 156, 156, 156, 156] ((g8 i8) : Int32).toInt = some t12) (h14 : mi_W d 195 t12 [some (.ref l1), some (.int l2)] [] (n, sl, f) Q) : mi_W d 195 0 [some (.ref l1), some (.int l2)] [] (n, sl, f) Q := by
  refine w_aload_n cd_195_0 rfl ?_
  refine w_getfield cd_195_1 (show mt_f 12 77 = some (12, 12) by decide +kernel) h4 h5 h7 ?_
  refine w_iload_n cd_195_4 rfl ?_
  refine w_iaload cd_195_5 h9 h10 h11 ?_
  exact w_tableswitch cd_195_6 h13 h14
theorem b_195_104 {d : Nat} {Q : (Option Value ⊕ Nat) → mi_H → Prop} (n sl : Nat) (f : Nat → mi_C) {l1 : Nat} {l2 : Int32} (h3 : Q (.inl (some (.int 1))) (n, sl, f)) : mi_W d 195 104 [some (.ref l1), some (.int l2)] [] (n, sl, f) Q := by
  refine w_iconst (v := 1) cd_195_104 (by decide) ?_
  exact w_ireturn_z cd_195_105 (by decide +kernel) (by decide) h3
theorem b_195_106 {d : Nat} {Q : (Option Value ⊕ Nat) → mi_H → Prop} (n sl : Nat) (f : Nat → mi_C) {l1 : Nat} {l2 : Int32} {fs3 : List Value} {x6 : Nat} (m8 i8 : Nat) (g8 : Nat → Int32) {fs12 : List Value} (h4 : f l1 = .inr (12, fs3)) (h5 : l1 < n) (h7 : fs3[13]? = some (.ref x6)) (h9 : f x6 = .inl (0, m8, .inl g8)) (h10 : x6 < n ∨ x6 = mi_SC) (h11 : mi_ix l2 m8 i8) (h13 : f l1 = .inr (12, fs12)) (h14 : l1 < n) (h15 : mi_W d 195 0 (mi_en 2 [.ref l1, .int (g8 i8)]) [] (n, sl, f) (mi_Kc d 195 113 [some (.ref l1), some (.int l2)] [] Q)) : mi_W (d + 1) 195 106 [some (.ref l1), some (.int l2)] [] (n, sl, f) Q := by
  refine w_aload_n cd_195_106 rfl ?_
  refine w_aload_n cd_195_107 rfl ?_
  refine w_getfield cd_195_108 (show mt_f 12 80 = some (12, 13) by decide +kernel) h4 h5 h7 ?_
  refine w_iload_n cd_195_111 rfl ?_
  refine w_iaload cd_195_112 h9 h10 h11 ?_
  exact w_invokevirtual cd_195_113 (show mt_m 12 554 = some (195, 0) by decide +kernel) (rest := []) rfl (as := [.ref l1, .int (g8 i8)]) rfl h13 (Or.inl h14) ⟨Nat.le_of_ble_eq_true rfl, Nat.le_of_ble_eq_true rfl, Nat.le_of_ble_eq_true rfl⟩ h15
theorem b_195_116 {d : Nat} {Q : (Option Value ⊕ Nat) → mi_H → Prop} (n sl : Nat) (f : Nat → mi_C) {l1 : Nat} {l2 : Int32} {s3 : Int32} (h4 : s3 = 0 ∨ s3 = 1) (h5 : Q (.inl (some (.int s3))) (n, sl, f)) : mi_W d 195 116 [some (.ref l1), some (.int l2)] [.int s3] (n, sl, f) Q := by
  exact w_ireturn_z cd_195_116 (by decide +kernel) h4 h5
theorem b_195_117 {d : Nat} {Q : (Option Value ⊕ Nat) → mi_H → Prop} (n sl : Nat) (f : Nat → mi_C) {l1 : Nat} {l2 : Int32} {fs3 : List Value} {x6 : Nat} (m8 i8 : Nat) (g8 : Nat → Int32) {fs12 : List Value} (h4 : f l1 = .inr (12, fs3)) (h5 : l1 < n) (h7 : fs3[16]? = some (.ref x6)) (h9 : f x6 = .inl (0, m8, .inl g8)) (h10 : x6 < n ∨ x6 = mi_SC) (h11 : mi_ix l2 m8 i8) (h13 : f l1 = .inr (12, fs12)) (h14 : l1 < n) (h15 : mi_W d 195 0 (mi_en 2 [.ref l1, .int (g8 i8)]) [] (n, sl, f) (mi_Kc d 195 124 [some (.ref l1), some (.int l2)] [] Q)) : mi_W (d + 1) 195 117 [some (.ref l1), some (.int l2)] [] (n, sl, f) Q := by
  refine w_aload_n cd_195_117 rfl ?_
  refine w_aload_n cd_195_118 rfl ?_
  refine w_getfield cd_195_119 (show mt_f 12 89 = some (12, 16) by decide +kernel) h4 h5 h7 ?_
  refine w_iload_n cd_195_122 rfl ?_
  refine w_iaload cd_195_123 h9 h10 h11 ?_
  exact w_invokevirtual cd_195_124 (show mt_m 12 554 = some (195, 0) by decide +kernel) (rest := []) rfl (as := [.ref l1, .int (g8 i8)]) rfl h13 (Or.inl h14) ⟨Nat.le_of_ble_eq_true rfl, Nat.le_of_ble_eq_true rfl, Nat.le_of_ble_eq_true rfl⟩ h15
theorem b_195_127 {d : Nat} {Q : (Option Value ⊕ Nat) → mi_H → Prop} (n sl : Nat) (f : Nat → mi_C) {l1 : Nat} {l2 : Int32} {s3 : Int32} (h4 : ¬ s3 = (0 : Int32) → mi_W d 195 156 [some (.ref l1), some (.int l2)] [] (n, sl, f) Q) (h5 : ¬ (¬ s3 = (0 : Int32)) → mi_W d 195 130 [some (.ref l1), some (.int l2)] [] (n, sl, f) Q) : mi_W d 195 127 [some (.ref l1), some (.int l2)] [.int s3] (n, sl, f) Q := by
  exact w_ifne cd_195_127 (by decide) h4 h5
theorem b_195_130 {d : Nat} {Q : (Option Value ⊕ Nat) → mi_H → Prop} (n sl : Nat) (f : Nat → mi_C) {l1 : Nat} {l2 : Int32} {fs3 : List Value} {x6 : Nat} (m8 i8 : Nat) (g8 : Nat → Int32) {fs12 : List Value} (h4 : f l1 = .inr (12, fs3)) (h5 : l1 < n) (h7 : fs3[13]? = some (.ref x6)) (h9 : f x6 = .inl (0, m8, .inl g8)) (h10 : x6 < n ∨ x6 = mi_SC) (h11 : mi_ix l2 m8 i8) (h13 : f l1 = .inr (12, fs12)) (h14 : l1 < n) (h15 : mi_W d 195 0 (mi_en 2 [.ref l1, .int (g8 i8)]) [] (n, sl, f) (mi_Kc d 195 137 [some (.ref l1), some (.int l2)] [] Q)) : mi_W (d + 1) 195 130 [some (.ref l1), some (.int l2)] [] (n, sl, f) Q := by
  refine w_aload_n cd_195_130 rfl ?_
  refine w_aload_n cd_195_131 rfl ?_
  refine w_getfield cd_195_132 (show mt_f 12 80 = some (12, 13) by decide +kernel) h4 h5 h7 ?_
  refine w_iload_n cd_195_135 rfl ?_
  refine w_iaload cd_195_136 h9 h10 h11 ?_
  exact w_invokevirtual cd_195_137 (show mt_m 12 554 = some (195, 0) by decide +kernel) (rest := []) rfl (as := [.ref l1, .int (g8 i8)]) rfl h13 (Or.inl h14) ⟨Nat.le_of_ble_eq_true rfl, Nat.le_of_ble_eq_true rfl, Nat.le_of_ble_eq_true rfl⟩ h15
theorem b_195_140 {d : Nat} {Q : (Option Value ⊕ Nat) → mi_H → Prop} (n sl : Nat) (f : Nat → mi_C) {l1 : Nat} {l2 : Int32} {s3 : Int32} (h4 : ¬ s3 = (0 : Int32) → mi_W d 195 156 [some (.ref l1), some (.int l2)] [] (n, sl, f) Q) (h5 : ¬ (¬ s3 = (0 : Int32)) → mi_W d 195 143 [some (.ref l1), some (.int l2)] [] (n, sl, f) Q) : mi_W d 195 140 [some (.ref l1), some (.int l2)] [.int s3] (n, sl, f) Q := by
  exact w_ifne cd_195_140 (by decide) h4 h5
theorem b_195_143 {d : Nat} {Q : (Option Value ⊕ Nat) → mi_H → Prop} (n sl : Nat) (f : Nat → mi_C) {l1 : Nat} {l2 : Int32} {fs3 : List Value} {x6 : Nat} (m8 i8 : Nat) (g8 : Nat → Int32) {fs12 : List Value} (h4 : f l1 = .inr (12, fs3)) (h5 : l1 < n) (h7 : fs3[14]? = some (.ref x6)) (h9 : f x6 = .inl (0, m8, .inl g8)) (h10 : x6 < n ∨ x6 = mi_SC) (h11 : mi_ix l2 m8 i8) (h13 : f l1 = .inr (12, fs12)) (h14 : l1 < n) (h15 : mi_W d 195 0 (mi_en 2 [.ref l1, .int (g8 i8)]) [] (n, sl, f) (mi_Kc d 195 150 [some (.ref l1), some (.int l2)] [] Q)) : mi_W (d + 1) 195 143 [some (.ref l1), some (.int l2)] [] (n, sl, f) Q := by
  refine w_aload_n cd_195_143 rfl ?_
  refine w_aload_n cd_195_144 rfl ?_
  refine w_getfield cd_195_145 (show mt_f 12 83 = some (12, 14) by decide +kernel) h4 h5 h7 ?_
  refine w_iload_n cd_195_148 rfl ?_
  refine w_iaload cd_195_149 h9 h10 h11 ?_
  exact w_invokevirtual cd_195_150 (show mt_m 12 554 = some (195, 0) by decide +kernel) (rest := []) rfl (as := [.ref l1, .int (g8 i8)]) rfl h13 (Or.inl h14) ⟨Nat.le_of_ble_eq_true rfl, Nat.le_of_ble_eq_true rfl, Nat.le_of_ble_eq_true rfl⟩ h15
theorem b_195_153 {d : Nat} {Q : (Option Value ⊕ Nat) → mi_H → Prop} (n sl : Nat) (f : Nat → mi_C) {l1 : Nat} {l2 : Int32} {s3 : Int32} (h4 : s3 = (0 : Int32) → mi_W d 195 160 [some (.ref l1), some (.int l2)] [] (n, sl, f) Q) (h5 : ¬ (s3 = (0 : Int32)) → mi_W d 195 156 [some (.ref l1), some (.int l2)] [] (n, sl, f) Q) : mi_W d 195 153 [some (.ref l1), some (.int l2)] [.int s3] (n, sl, f) Q := by
  exact w_ifeq cd_195_153 (by decide) h4 h5
theorem b_195_156 {d : Nat} {Q : (Option Value ⊕ Nat) → mi_H → Prop} (n sl : Nat) (f : Nat → mi_C) {l1 : Nat} {l2 : Int32} (h3 : mi_W d 195 161 [some (.ref l1), some (.int l2)] [.int 1] (n, sl, f) Q) : mi_W d 195 156 [some (.ref l1), some (.int l2)] [] (n, sl, f) Q := by
  refine w_iconst (v := 1) cd_195_156 (by decide) ?_
  exact w_goto cd_195_157 (by decide) h3
theorem b_195_160 {d : Nat} {Q : (Option Value ⊕ Nat) → mi_H → Prop} (n sl : Nat) (f : Nat → mi_C) {l1 : Nat} {l2 : Int32} (h3 : mi_W d 195 161 [some (.ref l1), some (.int l2)] [.int 0] (n, sl, f) Q) : mi_W d 195 160 [some (.ref l1), some (.int l2)] [] (n, sl, f) Q := by
  refine w_iconst (v := 0) cd_195_160 (by decide) ?_
  exact h3
theorem b_195_161 {d : Nat} {Q : (Option Value ⊕ Nat) → mi_H → Prop} (n sl : Nat) (f : Nat → mi_C) {l1 : Nat} {l2 : Int32} {s3 : Int32} (h4 : s3 = 0 ∨ s3 = 1) (h5 : Q (.inl (some (.int s3))) (n, sl, f)) : mi_W d 195 161 [some (.ref l1), some (.int l2)] [.int s3] (n, sl, f) Q := by
  exact w_ireturn_z cd_195_161 (by decide +kernel) h4 h5
theorem b_195_162 {d : Nat} {Q : (Option Value ⊕ Nat) → mi_H → Prop} (n sl : Nat) (f : Nat → mi_C) {l1 : Nat} {l2 : Int32} {fs3 : List Value} {x6 : Nat} (m8 i8 : Nat) (g8 : Nat → Int32) {fs12 : List Value} (h4 : f l1 = .inr (12, fs3)) (h5 : l1 < n) (h7 : fs3[13]? = some (.ref x6)) (h9 : f x6 = .inl (0, m8, .inl g8)) (h10 : x6 < n ∨ x6 = mi_SC) (h11 : mi_ix l2 m8 i8) (h13 : f l1 = .inr (12, fs12)) (h14 : l1 < n) (h15 : mi_W d 195 0 (mi_en 2 [.ref l1, .int (g8 i8)]) [] (n, sl, f) (mi_Kc d 195 169 [some (.ref l1), some (.int l2)] [] Q)) : mi_W (d + 1) 195 162 [some (.ref l1), some (.int l2)] [] (n, sl, f) Q := by
  refine w_aload_n cd_195_162 rfl ?_
  refine w_aload_n cd_195_163 rfl ?_
  refine w_getfield cd_195_164 (show mt_f 12 80 = some (12, 13) by decide +kernel) h4 h5 h7 ?_
  refine w_iload_n cd_195_167 rfl ?_
  refine w_iaload cd_195_168 h9 h10 h11 ?_
  exact w_invokevirtual cd_195_169 (show mt_m 12 554 = some (195, 0) by decide +kernel) (rest := []) rfl (as := [.ref l1, .int (g8 i8)]) rfl h13 (Or.inl h14) ⟨Nat.le_of_ble_eq_true rfl, Nat.le_of_ble_eq_true rfl, Nat.le_of_ble_eq_true rfl⟩ h15
theorem b_195_172 {d : Nat} {Q : (Option Value ⊕ Nat) → mi_H → Prop} (n sl : Nat) (f : Nat → mi_C) {l1 : Nat} {l2 : Int32} {s3 : Int32} (h4 : ¬ s3 = (0 : Int32) → mi_W d 195 188 [some (.ref l1), some (.int l2)] [] (n, sl, f) Q) (h5 : ¬ (¬ s3 = (0 : Int32)) → mi_W d 195 175 [some (.ref l1), some (.int l2)] [] (n, sl, f) Q) : mi_W d 195 172 [some (.ref l1), some (.int l2)] [.int s3] (n, sl, f) Q := by
  exact w_ifne cd_195_172 (by decide) h4 h5
theorem b_195_175 {d : Nat} {Q : (Option Value ⊕ Nat) → mi_H → Prop} (n sl : Nat) (f : Nat → mi_C) {l1 : Nat} {l2 : Int32} {fs3 : List Value} {x6 : Nat} (m8 i8 : Nat) (g8 : Nat → Int32) {fs12 : List Value} (h4 : f l1 = .inr (12, fs3)) (h5 : l1 < n) (h7 : fs3[14]? = some (.ref x6)) (h9 : f x6 = .inl (0, m8, .inl g8)) (h10 : x6 < n ∨ x6 = mi_SC) (h11 : mi_ix l2 m8 i8) (h13 : f l1 = .inr (12, fs12)) (h14 : l1 < n) (h15 : mi_W d 195 0 (mi_en 2 [.ref l1, .int (g8 i8)]) [] (n, sl, f) (mi_Kc d 195 182 [some (.ref l1), some (.int l2)] [] Q)) : mi_W (d + 1) 195 175 [some (.ref l1), some (.int l2)] [] (n, sl, f) Q := by
  refine w_aload_n cd_195_175 rfl ?_
  refine w_aload_n cd_195_176 rfl ?_
  refine w_getfield cd_195_177 (show mt_f 12 83 = some (12, 14) by decide +kernel) h4 h5 h7 ?_
  refine w_iload_n cd_195_180 rfl ?_
  refine w_iaload cd_195_181 h9 h10 h11 ?_
  exact w_invokevirtual cd_195_182 (show mt_m 12 554 = some (195, 0) by decide +kernel) (rest := []) rfl (as := [.ref l1, .int (g8 i8)]) rfl h13 (Or.inl h14) ⟨Nat.le_of_ble_eq_true rfl, Nat.le_of_ble_eq_true rfl, Nat.le_of_ble_eq_true rfl⟩ h15
theorem b_195_185 {d : Nat} {Q : (Option Value ⊕ Nat) → mi_H → Prop} (n sl : Nat) (f : Nat → mi_C) {l1 : Nat} {l2 : Int32} {s3 : Int32} (h4 : s3 = (0 : Int32) → mi_W d 195 192 [some (.ref l1), some (.int l2)] [] (n, sl, f) Q) (h5 : ¬ (s3 = (0 : Int32)) → mi_W d 195 188 [some (.ref l1), some (.int l2)] [] (n, sl, f) Q) : mi_W d 195 185 [some (.ref l1), some (.int l2)] [.int s3] (n, sl, f) Q := by
  exact w_ifeq cd_195_185 (by decide) h4 h5
theorem b_195_188 {d : Nat} {Q : (Option Value ⊕ Nat) → mi_H → Prop} (n sl : Nat) (f : Nat → mi_C) {l1 : Nat} {l2 : Int32} (h3 : mi_W d 195 193 [some (.ref l1), some (.int l2)] [.int 1] (n, sl, f) Q) : mi_W d 195 188 [some (.ref l1), some (.int l2)] [] (n, sl, f) Q := by
  refine w_iconst (v := 1) cd_195_188 (by decide) ?_
  exact w_goto cd_195_189 (by decide) h3
theorem b_195_192 {d : Nat} {Q : (Option Value ⊕ Nat) → mi_H → Prop} (n sl : Nat) (f : Nat → mi_C) {l1 : Nat} {l2 : Int32} (h3 : mi_W d 195 193 [some (.ref l1), some (.int l2)] [.int 0] (n, sl, f) Q) : mi_W d 195 192 [some (.ref l1), some (.int l2)] [] (n, sl, f) Q := by
  refine w_iconst (v := 0) cd_195_192 (by decide) ?_
  exact h3
theorem b_195_193 {d : Nat} {Q : (Option Value ⊕ Nat) → mi_H → Prop} (n sl : Nat) (f : Nat → mi_C) {l1 : Nat} {l2 : Int32} {s3 : Int32} (h4 : s3 = 0 ∨ s3 = 1) (h5 : Q (.inl (some (.int s3))) (n, sl, f)) : mi_W d 195 193 [some (.ref l1), some (.int l2)] [.int s3] (n, sl, f) Q := by
  exact w_ireturn_z cd_195_193 (by decide +kernel) h4 h5
theorem b_195_194 {d : Nat} {Q : (Option Value ⊕ Nat) → mi_H → Prop} (n sl : Nat) (f : Nat → mi_C) {l1 : Nat} {l2 : Int32} (h3 : Q (.inl (some (.int 0))) (n, sl, f)) : mi_W d 195 194 [some (.ref l1), some (.int l2)] [] (n, sl, f) Q := by
  refine w_iconst (v := 0) cd_195_194 (by decide) ?_
  exact w_ireturn_z cd_195_195 (by decide +kernel) (by decide) h3
/-! MarloweHostModel.goOn(LMarloweHostModel$State;)I -/
theorem cd_196_0 : mt_cd 196 0 = some (.aload_n 0) := by decide +kernel
theorem cd_196_1 : mt_cd 196 1 = some (.getfield 229) := by decide +kernel
theorem cd_196_4 : mt_cd 196 4 = some (.aload_n 0) := by decide +kernel
theorem cd_196_5 : mt_cd 196 5 = some (.getfield 568) := by decide +kernel
theorem cd_196_8 : mt_cd 196 8 = some (.aaload) := by decide +kernel
theorem cd_196_9 : mt_cd 196 9 = some (.ifnonnull 19) := by decide +kernel
theorem cd_196_12 : mt_cd 196 12 = some (.aload_n 0) := by decide +kernel
theorem cd_196_13 : mt_cd 196 13 = some (.getfield 229) := by decide +kernel
theorem cd_196_16 : mt_cd 196 16 = some (.aload_n 0) := by decide +kernel
theorem cd_196_17 : mt_cd 196 17 = some (.getfield 568) := by decide +kernel
theorem cd_196_20 : mt_cd 196 20 = some (.new 144) := by decide +kernel
theorem cd_196_23 : mt_cd 196 23 = some (.dup) := by decide +kernel
theorem cd_196_24 : mt_cd 196 24 = some (.invokespecial 146) := by decide +kernel
theorem cd_196_27 : mt_cd 196 27 = some (.aastore) := by decide +kernel
theorem cd_196_28 : mt_cd 196 28 = some (.aload_n 0) := by decide +kernel
theorem cd_196_29 : mt_cd 196 29 = some (.getfield 229) := by decide +kernel
theorem cd_196_32 : mt_cd 196 32 = some (.aload_n 0) := by decide +kernel
theorem cd_196_33 : mt_cd 196 33 = some (.getfield 568) := by decide +kernel
theorem cd_196_36 : mt_cd 196 36 = some (.aaload) := by decide +kernel
theorem cd_196_37 : mt_cd 196 37 = some (.astore_n 2) := by decide +kernel
theorem cd_196_38 : mt_cd 196 38 = some (.aload_n 0) := by decide +kernel
theorem cd_196_39 : mt_cd 196 39 = some (.aload_n 2) := by decide +kernel
theorem cd_196_40 : mt_cd 196 40 = some (.putfield 445) := by decide +kernel
theorem cd_196_43 : mt_cd 196 43 = some (.aload_n 2) := by decide +kernel
theorem cd_196_44 : mt_cd 196 44 = some (.aload_n 1) := by decide +kernel
theorem cd_196_45 : mt_cd 196 45 = some (.invokevirtual 525) := by decide +kernel
theorem cd_196_48 : mt_cd 196 48 = some (.aload_n 0) := by decide +kernel
theorem cd_196_49 : mt_cd 196 49 = some (.aload_n 1) := by decide +kernel
theorem cd_196_50 : mt_cd 196 50 = some (.getfield 516) := by decide +kernel
theorem cd_196_53 : mt_cd 196 53 = some (.aload_n 1) := by decide +kernel
theorem cd_196_54 : mt_cd 196 54 = some (.getfield 516) := by decide +kernel
theorem cd_196_57 : mt_cd 196 57 = some (.iconst 0) := by decide +kernel
theorem cd_196_58 : mt_cd 196 58 = some (.invokevirtual 529) := by decide +kernel
theorem cd_196_61 : mt_cd 196 61 = some (.istore_n 3) := by decide +kernel
theorem cd_196_62 : mt_cd 196 62 = some (.iload_n 3) := by decide +kernel
theorem cd_196_63 : mt_cd 196 63 = some (.iconst 5) := by decide +kernel
theorem cd_196_64 : mt_cd 196 64 = some (.if_icmp .eq 13) := by decide +kernel
theorem cd_196_67 : mt_cd 196 67 = some (.aload_n 0) := by decide +kernel
theorem cd_196_68 : mt_cd 196 68 = some (.aload_n 2) := by decide +kernel
theorem cd_196_69 : mt_cd 196 69 = some (.iload_n 3) := by decide +kernel
theorem cd_196_70 : mt_cd 196 70 = some (.iconst 0) := by decide +kernel
theorem cd_196_71 : mt_cd 196 71 = some (.lconst 0) := by decide +kernel
theorem cd_196_72 : mt_cd 196 72 = some (.iconst (-1)) := by decide +kernel
theorem cd_196_73 : mt_cd 196 73 = some (.invokevirtual 575) := by decide +kernel
theorem cd_196_76 : mt_cd 196 76 = some (.ireturn) := by decide +kernel
theorem cd_196_77 : mt_cd 196 77 = some (.aload_n 0) := by decide +kernel
theorem cd_196_78 : mt_cd 196 78 = some (.getfield 77) := by decide +kernel
theorem cd_196_81 : mt_cd 196 81 = some (.aload_n 1) := by decide +kernel
theorem cd_196_82 : mt_cd 196 82 = some (.getfield 496) := by decide +kernel
theorem cd_196_85 : mt_cd 196 85 = some (.iaload) := by decide +kernel
theorem cd_196_86 : mt_cd 196 86 = some (.iconst 4) := by decide +kernel
theorem cd_196_87 : mt_cd 196 87 = some (.if_icmp .eq 5) := by decide +kernel
theorem cd_196_90 : mt_cd 196 90 = some (.iconst 0) := by decide +kernel
theorem cd_196_91 : mt_cd 196 91 = some (.ireturn) := by decide +kernel
theorem cd_196_92 : mt_cd 196 92 = some (.aload_n 0) := by decide +kernel
theorem cd_196_93 : mt_cd 196 93 = some (.getfield 92) := by decide +kernel
theorem cd_196_96 : mt_cd 196 96 = some (.aload_n 1) := by decide +kernel
theorem cd_196_97 : mt_cd 196 97 = some (.getfield 496) := by decide +kernel
theorem cd_196_100 : mt_cd 196 100 = some (.iaload) := by decide +kernel
theorem cd_196_101 : mt_cd 196 101 = some (.istore 4) := by decide +kernel
theorem cd_196_103 : mt_cd 196 103 = some (.iload 4) := by decide +kernel
theorem cd_196_105 : mt_cd 196 105 = some (.ifCond .lt 56) := by decide +kernel
theorem cd_196_108 : mt_cd 196 108 = some (.aload_n 0) := by decide +kernel
theorem cd_196_109 : mt_cd 196 109 = some (.getfield 77) := by decide +kernel
theorem cd_196_112 : mt_cd 196 112 = some (.iload 4) := by decide +kernel
theorem cd_196_114 : mt_cd 196 114 = some (.iaload) := by decide +kernel
theorem cd_196_115 : mt_cd 196 115 = some (.bipush 8) := by decide +kernel
theorem cd_196_117 : mt_cd 196 117 = some (.if_icmp .ne 14) := by decide +kernel
theorem cd_196_120 : mt_cd 196 120 = some (.aload_n 0) := by decide +kernel
theorem cd_196_121 : mt_cd 196 121 = some (.aload_n 1) := by decide +kernel
theorem cd_196_122 : mt_cd 196 122 = some (.aload_n 2) := by decide +kernel
theorem cd_196_123 : mt_cd 196 123 = some (.iload 4) := by decide +kernel
theorem cd_196_125 : mt_cd 196 125 = some (.invokevirtual 579) := by decide +kernel
theorem cd_196_128 : mt_cd 196 128 = some (.goto 11) := by decide +kernel
theorem cd_196_131 : mt_cd 196 131 = some (.aload_n 0) := by decide +kernel
theorem cd_196_132 : mt_cd 196 132 = some (.aload_n 1) := by decide +kernel
theorem cd_196_133 : mt_cd 196 133 = some (.aload_n 2) := by decide +kernel
theorem cd_196_134 : mt_cd 196 134 = some (.iload 4) := by decide +kernel
theorem cd_196_136 : mt_cd 196 136 = some (.invokevirtual 583) := by decide +kernel
theorem cd_196_139 : mt_cd 196 139 = some (.istore 5) := by decide +kernel
theorem cd_196_141 : mt_cd 196 141 = some (.iload 5) := by decide +kernel
theorem cd_196_143 : mt_cd 196 143 = some (.ifCond .eq 6) := by decide +kernel
theorem cd_196_146 : mt_cd 196 146 = some (.iload 5) := by decide +kernel
theorem cd_196_148 : mt_cd 196 148 = some (.ireturn) := by decide +kernel
theorem cd_196_149 : mt_cd 196 149 = some (.aload_n 0) := by decide +kernel
theorem cd_196_150 : mt_cd 196 150 = some (.getfield 138) := by decide +kernel
theorem cd_196_153 : mt_cd 196 153 = some (.iload 4) := by decide +kernel
theorem cd_196_155 : mt_cd 196 155 = some (.iaload) := by decide +kernel
theorem cd_196_156 : mt_cd 196 156 = some (.istore 4) := by decide +kernel
theorem cd_196_158 : mt_cd 196 158 = some (.goto (-55)) := by decide +kernel
theorem cd_196_161 : mt_cd 196 161 = some (.aload_n 2) := by decide +kernel
theorem cd_196_162 : mt_cd 196 162 = some (.aload_n 1) := by decide +kernel
theorem cd_196_163 : mt_cd 196 163 = some (.invokevirtual 525) := by decide +kernel
theorem cd_196_166 : mt_cd 196 166 = some (.aload_n 0) := by decide +kernel
theorem cd_196_167 : mt_cd 196 167 = some (.aload_n 2) := by decide +kernel
theorem cd_196_168 : mt_cd 196 168 = some (.putfield 445) := by decide +kernel
theorem cd_196_171 : mt_cd 196 171 = some (.aload_n 0) := by decide +kernel
theorem cd_196_172 : mt_cd 196 172 = some (.getfield 101) := by decide +kernel
theorem cd_196_175 : mt_cd 196 175 = some (.aload_n 1) := by decide +kernel
theorem cd_196_176 : mt_cd 196 176 = some (.getfield 496) := by decide +kernel
theorem cd_196_179 : mt_cd 196 179 = some (.laload) := by decide +kernel
theorem cd_196_180 : mt_cd 196 180 = some (.lstore 4) := by decide +kernel
theorem cd_196_182 : mt_cd 196 182 = some (.aload_n 0) := by decide +kernel
theorem cd_196_183 : mt_cd 196 183 = some (.lload 4) := by decide +kernel
theorem cd_196_185 : mt_cd 196 185 = some (.lload 4) := by decide +kernel
theorem cd_196_187 : mt_cd 196 187 = some (.iconst 0) := by decide +kernel
theorem cd_196_188 : mt_cd 196 188 = some (.invokevirtual 529) := by decide +kernel
theorem cd_196_191 : mt_cd 196 191 = some (.istore_n 3) := by decide +kernel
theorem cd_196_192 : mt_cd 196 192 = some (.aload_n 0) := by decide +kernel
theorem cd_196_193 : mt_cd 196 193 = some (.aload_n 2) := by decide +kernel
theorem cd_196_194 : mt_cd 196 194 = some (.iload_n 3) := by decide +kernel
theorem cd_196_195 : mt_cd 196 195 = some (.iconst 4) := by decide +kernel
theorem cd_196_196 : mt_cd 196 196 = some (.lload 4) := by decide +kernel
theorem cd_196_198 : mt_cd 196 198 = some (.iconst (-1)) := by decide +kernel
theorem cd_196_199 : mt_cd 196 199 = some (.invokevirtual 575) := by decide +kernel
theorem cd_196_202 : mt_cd 196 202 = some (.ireturn) := by decide +kernel
theorem b_196_0 {d : Nat} {Q : (Option Value ⊕ Nat) → mi_H → Prop} (n sl : Nat) (f : Nat → mi_C) {l1 : Nat} {l2 : Nat} {o3 : Option Value} {o4 : Option Value} {o5 : Option Value} {o6 : Option Value} {fs7 : List Value} {x10 : Nat} {fs12 : List Value} {x15 : Int32} (m17 i17 ka17 : Nat) (g17 : Nat → Option Nat) {w22 : Value} (h8 : f l1 = .inr (12, fs7)) (h9 : l1 < n) (h11 : fs7[82]? = some (.ref x10)) (h13 : f l1 = .inr (12, fs12)) (h14 : l1 < n) (h16 : fs12[74]? = some (.int x15)) (h18 : f x10 = .inl (ka17, m17, .inr (.inr (.inr (.inr g17))))) (h19 : x10 < n) (h20 : 4 ≤ ka17 ∧ ka17 < mt_na) (h21 : mi_ix x15 m17 i17) (h23 : va_rf (g17 i17) = w22) (h24 : w22 = .null → mi_W d 196 12 [some (.ref l1), some (.ref l2), o3, o4, o5, o6] [] (n, sl, f) Q) (h25 : ∀ q : Nat, w22 = .ref q → mi_W d 196 28 [some (.ref l1), some (.ref l2), o3, o4, o5, o6] [] (n, sl, f) Q) (h26 : w22.isRef = true) : mi_W d 196 0 [some (.ref l1), some (.ref l2), o3, o4, o5, o6] [] (n, sl, f) Q := by
  refine w_aload_n cd_196_0 rfl ?_
  refine w_getfield cd_196_1 (show mt_f 12 229 = some (12, 82) by decide +kernel) h8 h9 h11 ?_
  refine w_aload_n cd_196_4 rfl ?_
  refine w_getfield cd_196_5 (show mt_f 12 568 = some (12, 74) by decide +kernel) h13 h14 h16 ?_
  refine w_aaload (w := w22) cd_196_8 h18 h19 h20 h21 h23 ?_
  
  cases w22 with
  | null => exact w_ifnonnull_n cd_196_9 (h24 rfl)
  | ref q => exact w_ifnonnull_r cd_196_9 (by decide) (h25 q rfl)
  | _ => cases h26
theorem b_196_12 {d : Nat} {Q : (Option Value ⊕ Nat) → mi_H → Prop} (n sl : Nat) (f : Nat → mi_C) {l1 : Nat} {l2 : Nat} {o3 : Option Value} {o4 : Option Value} {o5 : Option Value} {o6 : Option Value} {fs7 : List Value} {x10 : Nat} {fs12 : List Value} {x15 : Int32} (h8 : f l1 = .inr (12, fs7)) (h9 : l1 < n) (h11 : fs7[82]? = some (.ref x10)) (h13 : f l1 = .inr (12, fs12)) (h14 : l1 < n) (h16 : fs12[74]? = some (.int x15)) (h17 : n + 1 ≤ mi_NC ∧ sl + 7 ≤ mi_NS) (h18 : n < (n + 1)) (h19 : mi_W d 136 0 (mi_en 1 [.ref n]) [] ((n + 1), (sl + 7), (va_up f n (.inr (13, mt_df 13)))) (mi_Kc d 196 24 [some (.ref l1), some (.ref l2), o3, o4, o5, o6] [.ref n, .int x15, .ref x10] Q)) : mi_W (d + 1) 196 12 [some (.ref l1), some (.ref l2), o3, o4, o5, o6] [] (n, sl, f) Q := by
  refine w_aload_n cd_196_12 rfl ?_
  refine w_getfield cd_196_13 (show mt_f 12 229 = some (12, 82) by decide +kernel) h8 h9 h11 ?_
  refine w_aload_n cd_196_16 rfl ?_
  refine w_getfield cd_196_17 (show mt_f 12 568 = some (12, 74) by decide +kernel) h13 h14 h16 ?_
  refine w_new cd_196_20 (show mt_c 12 144 = some 13 by decide +kernel) (by decide) h17 ?_
  refine w_dup_r cd_196_23 ?_
  exact w_invokespecial cd_196_24 (show mt_m 12 146 = some (136, 3) by decide +kernel) (Or.inr rfl) (by decide) (rest := [.ref n, .int x15, .ref x10]) rfl (as := [.ref n]) rfl h18 ⟨Nat.le_of_ble_eq_true rfl, Nat.le_of_ble_eq_true rfl, Nat.le_of_ble_eq_true rfl⟩ h19
theorem b_196_27 {d : Nat} {Q : (Option Value ⊕ Nat) → mi_H → Prop} (n sl : Nat) (f : Nat → mi_C) {l1 : Nat} {l2 : Nat} {o3 : Option Value} {o4 : Option Value} {o5 : Option Value} {o6 : Option Value} {s7 : Nat} {s8 : Int32} {s9 : Nat} (m10 i10 ka10 ci10 : Nat) (g10 : Nat → Option Nat) (fs10 : List Value) (h11 : s9 < n) (h12 : mi_ix s8 m10 i10) (h13 : f s9 = .inl (ka10, m10, .inr (.inr (.inr (.inr g10))))) (h14 : f s7 = .inr (ci10, fs10)) (h15 : s7 < n) (h16 : mt_ac ka10 = some ci10) (h17 : mi_W d 196 28 [some (.ref l1), some (.ref l2), o3, o4, o5, o6] [] (n, sl, (va_up f s9 (.inl (ka10, m10, .inr (.inr (.inr (.inr (va_up g10 i10 (some s7))))))))) Q) : mi_W d 196 27 [some (.ref l1), some (.ref l2), o3, o4, o5, o6] [.ref s7, .int s8, .ref s9] (n, sl, f) Q := by
  refine w_aastore cd_196_27 h13 h11 h14 h15 h16 h12 ?_
  exact h17
theorem b_196_28 {d : Nat} {Q : (Option Value ⊕ Nat) → mi_H → Prop} (n sl : Nat) (f : Nat → mi_C) {l1 : Nat} {l2 : Nat} {o3 : Option Value} {o4 : Option Value} {o5 : Option Value} {o6 : Option Value} {fs7 : List Value} {x10 : Nat} {fs12 : List Value} {x15 : Int32} (m17 i17 ka17 : Nat) (g17 : Nat → Option Nat) {x22 : Nat} {fs24 : List Value} {fs28 : List Value} (h8 : f l1 = .inr (12, fs7)) (h9 : l1 < n) (h11 : fs7[82]? = some (.ref x10)) (h13 : f l1 = .inr (12, fs12)) (h14 : l1 < n) (h16 : fs12[74]? = some (.int x15)) (h18 : f x10 = .inl (ka17, m17, .inr (.inr (.inr (.inr g17))))) (h19 : x10 < n) (h20 : 4 ≤ ka17 ∧ ka17 < mt_na) (h21 : mi_ix x15 m17 i17) (h23 : g17 i17 = some x22) (h25 : f l1 = .inr (12, fs24)) (h26 : l1 < n) (h27 : 43 < fs24.length) (h29 : (va_up f l1 (.inr (12, fs24.set 43 (.ref x22)))) x22 = .inr (13, fs28)) (h30 : x22 < n) (h31 : mi_W d 172 0 (mi_en 3 [.ref x22, .ref l2]) [] (n, sl, (va_up f l1 (.inr (12, fs24.set 43 (.ref x22))))) (mi_Kc d 196 45 [some (.ref l1), some (.ref l2), some (.ref x22), o4, o5, o6] [] Q)) : mi_W (d + 1) 196 28 [some (.ref l1), some (.ref l2), o3, o4, o5, o6] [] (n, sl, f) Q := by
  refine w_aload_n cd_196_28 rfl ?_
  refine w_getfield cd_196_29 (show mt_f 12 229 = some (12, 82) by decide +kernel) h8 h9 h11 ?_
  refine w_aload_n cd_196_32 rfl ?_
  refine w_getfield cd_196_33 (show mt_f 12 568 = some (12, 74) by decide +kernel) h13 h14 h16 ?_
  refine w_aaload (w := .ref x22) cd_196_36 h18 h19 h20 h21 (by rw [h23]; rfl) ?_
  refine w_astore_n (ls' := [some (.ref l1), some (.ref l2), some (.ref x22), o4, o5, o6]) cd_196_37 (Nat.le_of_ble_eq_true rfl) rfl ?_
  refine w_aload_n cd_196_38 rfl ?_
  refine w_aload_n cd_196_39 rfl ?_
  refine w_putfield (w := .ref x22) cd_196_40 (show mt_f 12 445 = some (12, 43) by decide +kernel) h25 h26 ⟨h27, rfl, Or.inl (by decide)⟩ ?_
  refine w_aload_n cd_196_43 rfl ?_
  refine w_aload_n cd_196_44 rfl ?_
  exact w_invokevirtual cd_196_45 (show mt_m 12 525 = some (172, 0) by decide +kernel) (rest := []) rfl (as := [.ref x22, .ref l2]) rfl h29 (Or.inl h30) ⟨Nat.le_of_ble_eq_true rfl, Nat.le_of_ble_eq_true rfl, Nat.le_of_ble_eq_true rfl⟩ h31
theorem b_196_48 {d : Nat} {Q : (Option Value ⊕ Nat) → mi_H → Prop} (n sl : Nat) (f : Nat → mi_C) {l1 : Nat} {l2 : Nat} {l3 : Nat} {o4 : Option Value} {o5 : Option Value} {o6 : Option Value} {fs7 : List Value} {x10 : Int64} {fs12 : List Value} {x15 : Int64} {fs17 : List Value} (h8 : f l2 = .inr (13, fs7)) (h9 : l2 < n) (h11 : fs7[1]? = some (.long x10)) (h13 : f l2 = .inr (13, fs12)) (h14 : l2 < n) (h16 : fs12[1]? = some (.long x15)) (h18 : f l1 = .inr (12, fs17)) (h19 : l1 < n) (h20 : mi_W d 173 0 (mi_en 8 [.ref l1, .long x10, .long x15, .int 0]) [] (n, sl, f) (mi_Kc d 196 58 [some (.ref l1), some (.ref l2), some (.ref l3), o4, o5, o6] [] Q)) : mi_W (d + 1) 196 48 [some (.ref l1), some (.ref l2), some (.ref l3), o4, o5, o6] [] (n, sl, f) Q := by
  refine w_aload_n cd_196_48 rfl ?_
  refine w_aload_n cd_196_49 rfl ?_
  refine w_getfield cd_196_50 (show mt_f 12 516 = some (13, 1) by decide +kernel) h8 h9 h11 ?_
  refine w_aload_n cd_196_53 rfl ?_
  refine w_getfield cd_196_54 (show mt_f 12 516 = some (13, 1) by decide +kernel) h13 h14 h16 ?_
  refine w_iconst (v := 0) cd_196_57 (by decide) ?_
  exact w_invokevirtual cd_196_58 (show mt_m 12 529 = some (173, 0) by decide +kernel) (rest := []) rfl (as := [.ref l1, .long x10, .long x15, .int 0]) rfl h18 (Or.inl h19) ⟨Nat.le_of_ble_eq_true rfl, Nat.le_of_ble_eq_true rfl, Nat.le_of_ble_eq_true rfl⟩ h20
theorem b_196_61 {d : Nat} {Q : (Option Value ⊕ Nat) → mi_H → Prop} (n sl : Nat) (f : Nat → mi_C) {l1 : Nat} {l2 : Nat} {l3 : Nat} {o4 : Option Value} {o5 : Option Value} {o6 : Option Value} {s7 : Int32} (h8 : s7 = 5 → mi_W d 196 77 [some (.ref l1), some (.ref l2), some (.ref l3), some (.int s7), o5, o6] [] (n, sl, f) Q) (h9 : ¬ (s7 = 5) → mi_W d 196 67 [some (.ref l1), some (.ref l2), some (.ref l3), some (.int s7), o5, o6] [] (n, sl, f) Q) : mi_W d 196 61 [some (.ref l1), some (.ref l2), some (.ref l3), o4, o5, o6] [.int s7] (n, sl, f) Q := by
  refine w_istore_n (ls' := [some (.ref l1), some (.ref l2), some (.ref l3), some (.int s7), o5, o6]) cd_196_61 (Nat.le_of_ble_eq_true rfl) rfl ?_
  refine w_iload_n cd_196_62 rfl ?_
  refine w_iconst (v := 5) cd_196_63 (by decide) ?_
  exact w_if_icmpeq cd_196_64 (by decide) h8 h9
theorem b_196_67 {d : Nat} {Q : (Option Value ⊕ Nat) → mi_H → Prop} (n sl : Nat) (f : Nat → mi_C) {l1 : Nat} {l2 : Nat} {l3 : Nat} {l4 : Int32} {o5 : Option Value} {o6 : Option Value} {fs7 : List Value} (h8 : f l1 = .inr (12, fs7)) (h9 : l1 < n) (h10 : mi_W d 197 0 (mi_en 8 [.ref l1, .ref l3, .int l4, .int 0, .long 0, .int (-1)]) [] (n, sl, f) (mi_Kc d 196 73 [some (.ref l1), some (.ref l2), some (.ref l3), some (.int l4), o5, o6] [] Q)) : mi_W (d + 1) 196 67 [some (.ref l1), some (.ref l2), some (.ref l3), some (.int l4), o5, o6] [] (n, sl, f) Q := by
  refine w_aload_n cd_196_67 rfl ?_
  refine w_aload_n cd_196_68 rfl ?_
  refine w_iload_n cd_196_69 rfl ?_
  refine w_iconst (v := 0) cd_196_70 (by decide) ?_
  refine w_lconst (lv := 0) cd_196_71 (by decide) ?_
  refine w_iconst (v := (-1)) cd_196_72 (by decide) ?_
  exact w_invokevirtual cd_196_73 (show mt_m 12 575 = some (197, 0) by decide +kernel) (rest := []) rfl (as := [.ref l1, .ref l3, .int l4, .int 0, .long 0, .int (-1)]) rfl h8 (Or.inl h9) ⟨Nat.le_of_ble_eq_true rfl, Nat.le_of_ble_eq_true rfl, Nat.le_of_ble_eq_true rfl⟩ h10
theorem b_196_76 {d : Nat} {Q : (Option Value ⊕ Nat) → mi_H → Prop} (n sl : Nat) (f : Nat → mi_C) {l1 : Nat} {l2 : Nat} {l3 : Nat} {l4 : Int32} {o5 : Option Value} {o6 : Option Value} {s7 : Int32} (h8 : Q (.inl (some (.int s7))) (n, sl, f)) : mi_W d 196 76 [some (.ref l1), some (.ref l2), some (.ref l3), some (.int l4), o5, o6] [.int s7] (n, sl, f) Q := by
  exact w_ireturn_i cd_196_76 (by decide +kernel) h8
theorem b_196_77 {d : Nat} {Q : (Option Value ⊕ Nat) → mi_H → Prop} (n sl : Nat) (f : Nat → mi_C) {l1 : Nat} {l2 : Nat} {l3 : Nat} {l4 : Int32} {o5 : Option Value} {o6 : Option Value} {fs7 : List Value} {x10 : Nat} {fs12 : List Value} {x15 : Int32} (m17 i17 : Nat) (g17 : Nat → Int32) (h8 : f l1 = .inr (12, fs7)) (h9 : l1 < n) (h11 : fs7[12]? = some (.ref x10)) (h13 : f l2 = .inr (13, fs12)) (h14 : l2 < n) (h16 : fs12[0]? = some (.int x15)) (h18 : f x10 = .inl (0, m17, .inl g17)) (h19 : x10 < n ∨ x10 = mi_SC) (h20 : mi_ix x15 m17 i17) (h21 : (g17 i17) = 4 → mi_W d 196 92 [some (.ref l1), some (.ref l2), some (.ref l3), some (.int l4), o5, o6] [] (n, sl, f) Q) (h22 : ¬ ((g17 i17) = 4) → mi_W d 196 90 [some (.ref l1), some (.ref l2), some (.ref l3), some (.int l4), o5, o6] [] (n, sl, f) Q) : mi_W d 196 77 [some (.ref l1), some (.ref l2), some (.ref l3), some (.int l4), o5, o6] [] (n, sl, f) Q := by
  refine w_aload_n cd_196_77 rfl ?_
  refine w_getfield cd_196_78 (show mt_f 12 77 = some (12, 12) by decide +kernel) h8 h9 h11 ?_
  refine w_aload_n cd_196_81 rfl ?_
  refine w_getfield cd_196_82 (show mt_f 12 496 = some (13, 0) by decide +kernel) h13 h14 h16 ?_
  refine w_iaload cd_196_85 h18 h19 h20 ?_
  refine w_iconst (v := 4) cd_196_86 (by decide) ?_
  exact w_if_icmpeq cd_196_87 (by decide) h21 h22
theorem b_196_90 {d : Nat} {Q : (Option Value ⊕ Nat) → mi_H → Prop} (n sl : Nat) (f : Nat → mi_C) {l1 : Nat} {l2 : Nat} {l3 : Nat} {l4 : Int32} {o5 : Option Value} {o6 : Option Value} (h7 : Q (.inl (some (.int 0))) (n, sl, f)) : mi_W d 196 90 [some (.ref l1), some (.ref l2), some (.ref l3), some (.int l4), o5, o6] [] (n, sl, f) Q := by
  refine w_iconst (v := 0) cd_196_90 (by decide) ?_
  exact w_ireturn_i cd_196_91 (by decide +kernel) h7
theorem b_196_92 {d : Nat} {Q : (Option Value ⊕ Nat) → mi_H → Prop} (n sl : Nat) (f : Nat → mi_C) {l1 : Nat} {l2 : Nat} {l3 : Nat} {l4 : Int32} {o5 : Option Value} {o6 : Option Value} {fs7 : List Value} {x10 : Nat} {fs12 : List Value} {x15 : Int32} (m17 i17 : Nat) (g17 : Nat → Int32) (h8 : f l1 = .inr (12, fs7)) (h9 : l1 < n) (h11 : fs7[17]? = some (.ref x10)) (h13 : f l2 = .inr (13, fs12)) (h14 : l2 < n) (h16 : fs12[0]? = some (.int x15)) (h18 : f x10 = .inl (0, m17, .inl g17)) (h19 : x10 < n ∨ x10 = mi_SC) (h20 : mi_ix x15 m17 i17) (h21 : mi_W d 196 103 [some (.ref l1), some (.ref l2), some (.ref l3), some (.int l4), some (.int (g17 i17)), o6] [] (n, sl, f) Q) : mi_W d 196 92 [some (.ref l1), some (.ref l2), some (.ref l3), some (.int l4), o5, o6] [] (n, sl, f) Q := by
  refine w_aload_n cd_196_92 rfl ?_
  refine w_getfield cd_196_93 (show mt_f 12 92 = some (12, 17) by decide +kernel) h8 h9 h11 ?_
  refine w_aload_n cd_196_96 rfl ?_
  refine w_getfield cd_196_97 (show mt_f 12 496 = some (13, 0) by decide +kernel) h13 h14 h16 ?_
  refine w_iaload cd_196_100 h18 h19 h20 ?_
  refine w_istore (ls' := [some (.ref l1), some (.ref l2), some (.ref l3), some (.int l4), some (.int (g17 i17)), o6]) cd_196_101 (Nat.le_of_ble_eq_true rfl) rfl ?_
  exact h21
theorem b_196_103 {d : Nat} {Q : (Option Value ⊕ Nat) → mi_H → Prop} (n sl : Nat) (f : Nat → mi_C) {l1 : Nat} {l2 : Nat} {l3 : Nat} {l4 : Int32} {l5 : Int32} {o6 : Option Value} (h7 : l5 < (0 : Int32) → mi_W d 196 161 [some (.ref l1), some (.ref l2), some (.ref l3), some (.int l4), some (.int l5), o6] [] (n, sl, f) Q) (h8 : ¬ (l5 < (0 : Int32)) → mi_W d 196 108 [some (.ref l1), some (.ref l2), some (.ref l3), some (.int l4), some (.int l5), o6] [] (n, sl, f) Q) : mi_W d 196 103 [some (.ref l1), some (.ref l2), some (.ref l3), some (.int l4), some (.int l5), o6] [] (n, sl, f) Q := by
  refine w_iload cd_196_103 rfl ?_
  exact w_iflt cd_196_105 (by decide) h7 h8
theorem b_196_108 {d : Nat} {Q : (Option Value ⊕ Nat) → mi_H → Prop} (n sl : Nat) (f : Nat → mi_C) {l1 : Nat} {l2 : Nat} {l3 : Nat} {l4 : Int32} {l5 : Int32} {o6 : Option Value} {fs7 : List Value} {x10 : Nat} (m12 i12 : Nat) (g12 : Nat → Int32) (h8 : f l1 = .inr (12, fs7)) (h9 : l1 < n) (h11 : fs7[12]? = some (.ref x10)) (h13 : f x10 = .inl (0, m12, .inl g12)) (h14 : x10 < n ∨ x10 = mi_SC) (h15 : mi_ix l5 m12 i12) (h16 : ¬ (g12 i12) = 8 → mi_W d 196 131 [some (.ref l1), some (.ref l2), some (.ref l3), some (.int l4), some (.int l5), o6] [] (n, sl, f) Q) (h17 : ¬ (¬ (g12 i12) = 8) → mi_W d 196 120 [some (.ref l1), some (.ref l2), some (.ref l3), some (.int l4), some (.int l5), o6] [] (n, sl, f) Q) : mi_W d 196 108 [some (.ref l1), some (.ref l2), some (.ref l3), some (.int l4), some (.int l5), o6] [] (n, sl, f) Q := by
  refine w_aload_n cd_196_108 rfl ?_
  refine w_getfield cd_196_109 (show mt_f 12 77 = some (12, 12) by decide +kernel) h8 h9 h11 ?_
  refine w_iload cd_196_112 rfl ?_
  refine w_iaload cd_196_114 h13 h14 h15 ?_
  refine w_bipush (v := 8) cd_196_115 (by decide) ?_
  exact w_if_icmpne cd_196_117 (by decide) h16 h17
theorem b_196_120 {d : Nat} {Q : (Option Value ⊕ Nat) → mi_H → Prop} (n sl : Nat) (f : Nat → mi_C) {l1 : Nat} {l2 : Nat} {l3 : Nat} {l4 : Int32} {l5 : Int32} {o6 : Option Value} {fs7 : List Value} (h8 : f l1 = .inr (12, fs7)) (h9 : l1 < n) (h10 : mi_W d 198 0 (mi_en 8 [.ref l1, .ref l2, .ref l3, .int l5]) [] (n, sl, f) (mi_Kc d 196 125 [some (.ref l1), some (.ref l2), some (.ref l3), some (.int l4), some (.int l5), o6] [] Q)) : mi_W (d + 1) 196 120 [some (.ref l1), some (.ref l2), some (.ref l3), some (.int l4), some (.int l5), o6] [] (n, sl, f) Q := by
  refine w_aload_n cd_196_120 rfl ?_
  refine w_aload_n cd_196_121 rfl ?_
  refine w_aload_n cd_196_122 rfl ?_
  refine w_iload cd_196_123 rfl ?_
  exact w_invokevirtual cd_196_125 (show mt_m 12 579 = some (198, 0) by decide +kernel) (rest := []) rfl (as := [.ref l1, .ref l2, .ref l3, .int l5]) rfl h8 (Or.inl h9) ⟨Nat.le_of_ble_eq_true rfl, Nat.le_of_ble_eq_true rfl, Nat.le_of_ble_eq_true rfl⟩ h10
theorem b_196_128 {d : Nat} {Q : (Option Value ⊕ Nat) → mi_H → Prop} (n sl : Nat) (f : Nat → mi_C) {l1 : Nat} {l2 : Nat} {l3 : Nat} {l4 : Int32} {l5 : Int32} {o6 : Option Value} {s7 : Int32} (h8 : mi_W d 196 139 [some (.ref l1), some (.ref l2), some (.ref l3), some (.int l4), some (.int l5), o6] [.int s7] (n, sl, f) Q) : mi_W d 196 128 [some (.ref l1), some (.ref l2), some (.ref l3), some (.int l4), some (.int l5), o6] [.int s7] (n, sl, f) Q := by
  exact w_goto cd_196_128 (by decide) h8
theorem b_196_131 {d : Nat} {Q : (Option Value ⊕ Nat) → mi_H → Prop} (n sl : Nat) (f : Nat → mi_C) {l1 : Nat} {l2 : Nat} {l3 : Nat} {l4 : Int32} {l5 : Int32} {o6 : Option Value} {fs7 : List Value} (h8 : f l1 = .inr (12, fs7)) (h9 : l1 < n) (h10 : mi_W d 200 0 (mi_en 6 [.ref l1, .ref l2, .ref l3, .int l5]) [] (n, sl, f) (mi_Kc d 196 136 [some (.ref l1), some (.ref l2), some (.ref l3), some (.int l4), some (.int l5), o6] [] Q)) : mi_W (d + 1) 196 131 [some (.ref l1), some (.ref l2), some (.ref l3), some (.int l4), some (.int l5), o6] [] (n, sl, f) Q := by
  refine w_aload_n cd_196_131 rfl ?_
  refine w_aload_n cd_196_132 rfl ?_
  refine w_aload_n cd_196_133 rfl ?_
  refine w_iload cd_196_134 rfl ?_
  exact w_invokevirtual cd_196_136 (show mt_m 12 583 = some (200, 0) by decide +kernel) (rest := []) rfl (as := [.ref l1, .ref l2, .ref l3, .int l5]) rfl h8 (Or.inl h9) ⟨Nat.le_of_ble_eq_true rfl, Nat.le_of_ble_eq_true rfl, Nat.le_of_ble_eq_true rfl⟩ h10
theorem b_196_139 {d : Nat} {Q : (Option Value ⊕ Nat) → mi_H → Prop} (n sl : Nat) (f : Nat → mi_C) {l1 : Nat} {l2 : Nat} {l3 : Nat} {l4 : Int32} {l5 : Int32} {o6 : Option Value} {s7 : Int32} (h8 : s7 = (0 : Int32) → mi_W d 196 149 [some (.ref l1), some (.ref l2), some (.ref l3), some (.int l4), some (.int l5), some (.int s7)] [] (n, sl, f) Q) (h9 : ¬ (s7 = (0 : Int32)) → mi_W d 196 146 [some (.ref l1), some (.ref l2), some (.ref l3), some (.int l4), some (.int l5), some (.int s7)] [] (n, sl, f) Q) : mi_W d 196 139 [some (.ref l1), some (.ref l2), some (.ref l3), some (.int l4), some (.int l5), o6] [.int s7] (n, sl, f) Q := by
  refine w_istore (ls' := [some (.ref l1), some (.ref l2), some (.ref l3), some (.int l4), some (.int l5), some (.int s7)]) cd_196_139 (Nat.le_of_ble_eq_true rfl) rfl ?_
  refine w_iload cd_196_141 rfl ?_
  exact w_ifeq cd_196_143 (by decide) h8 h9
theorem b_196_146 {d : Nat} {Q : (Option Value ⊕ Nat) → mi_H → Prop} (n sl : Nat) (f : Nat → mi_C) {l1 : Nat} {l2 : Nat} {l3 : Nat} {l4 : Int32} {l5 : Int32} {l6 : Int32} (h7 : Q (.inl (some (.int l6))) (n, sl, f)) : mi_W d 196 146 [some (.ref l1), some (.ref l2), some (.ref l3), some (.int l4), some (.int l5), some (.int l6)] [] (n, sl, f) Q := by
  refine w_iload cd_196_146 rfl ?_
  exact w_ireturn_i cd_196_148 (by decide +kernel) h7
theorem b_196_149 {d : Nat} {Q : (Option Value ⊕ Nat) → mi_H → Prop} (n sl : Nat) (f : Nat → mi_C) {l1 : Nat} {l2 : Nat} {l3 : Nat} {l4 : Int32} {l5 : Int32} {l6 : Int32} {fs7 : List Value} {x10 : Nat} (m12 i12 : Nat) (g12 : Nat → Int32) (h8 : f l1 = .inr (12, fs7)) (h9 : l1 < n) (h11 : fs7[39]? = some (.ref x10)) (h13 : f x10 = .inl (0, m12, .inl g12)) (h14 : x10 < n ∨ x10 = mi_SC) (h15 : mi_ix l5 m12 i12) (h16 : mi_W d 196 103 [some (.ref l1), some (.ref l2), some (.ref l3), some (.int l4), some (.int (g12 i12)), some (.int l6)] [] (n, sl, f) Q) : mi_W d 196 149 [some (.ref l1), some (.ref l2), some (.ref l3), some (.int l4), some (.int l5), some (.int l6)] [] (n, sl, f) Q := by
  refine w_aload_n cd_196_149 rfl ?_
  refine w_getfield cd_196_150 (show mt_f 12 138 = some (12, 39) by decide +kernel) h8 h9 h11 ?_
  refine w_iload cd_196_153 rfl ?_
  refine w_iaload cd_196_155 h13 h14 h15 ?_
  refine w_istore (ls' := [some (.ref l1), some (.ref l2), some (.ref l3), some (.int l4), some (.int (g12 i12)), some (.int l6)]) cd_196_156 (Nat.le_of_ble_eq_true rfl) rfl ?_
  exact w_goto cd_196_158 (by decide) h16
theorem b_196_161 {d : Nat} {Q : (Option Value ⊕ Nat) → mi_H → Prop} (n sl : Nat) (f : Nat → mi_C) {l1 : Nat} {l2 : Nat} {l3 : Nat} {l4 : Int32} {l5 : Int32} {o6 : Option Value} {fs7 : List Value} (h8 : f l3 = .inr (13, fs7)) (h9 : l3 < n) (h10 : mi_W d 172 0 (mi_en 3 [.ref l3, .ref l2]) [] (n, sl, f) (mi_Kc d 196 163 [some (.ref l1), some (.ref l2), some (.ref l3), some (.int l4), some (.int l5), o6] [] Q)) : mi_W (d + 1) 196 161 [some (.ref l1), some (.ref l2), some (.ref l3), some (.int l4), some (.int l5), o6] [] (n, sl, f) Q := by
  refine w_aload_n cd_196_161 rfl ?_
  refine w_aload_n cd_196_162 rfl ?_
  exact w_invokevirtual cd_196_163 (show mt_m 12 525 = some (172, 0) by decide +kernel) (rest := []) rfl (as := [.ref l3, .ref l2]) rfl h8 (Or.inl h9) ⟨Nat.le_of_ble_eq_true rfl, Nat.le_of_ble_eq_true rfl, Nat.le_of_ble_eq_true rfl⟩ h10
theorem b_196_166 {d : Nat} {Q : (Option Value ⊕ Nat) → mi_H → Prop} (n sl : Nat) (f : Nat → mi_C) {l1 : Nat} {l2 : Nat} {l3 : Nat} {l4 : Int32} {l5 : Int32} {o6 : Option Value} {fs7 : List Value} {fs11 : List Value} {x14 : Nat} {fs16 : List Value} {x19 : Int32} (m21 i21 : Nat) (g21 : Nat → Int64) {fs25 : List Value} (h8 : f l1 = .inr (12, fs7)) (h9 : l1 < n) (h10 : 43 < fs7.length) (h12 : (va_up f l1 (.inr (12, fs7.set 43 (.ref l3)))) l1 = .inr (12, fs11)) (h13 : l1 < n) (h15 : fs11[20]? = some (.ref x14)) (h17 : (va_up f l1 (.inr (12, fs7.set 43 (.ref l3)))) l2 = .inr (13, fs16)) (h18 : l2 < n) (h20 : fs16[0]? = some (.int x19)) (h22 : (va_up f l1 (.inr (12, fs7.set 43 (.ref l3)))) x14 = .inl (3, m21, .inr (.inl g21))) (h23 : x14 < n) (h24 : mi_ix x19 m21 i21) (h26 : (va_up f l1 (.inr (12, fs7.set 43 (.ref l3)))) l1 = .inr (12, fs25)) (h27 : l1 < n) (h28 : mi_W d 173 0 (mi_en 8 [.ref l1, .long (g21 i21), .long (g21 i21), .int 0]) [] (n, sl, (va_up f l1 (.inr (12, fs7.set 43 (.ref l3))))) (mi_Kc d 196 188 [some (.ref l1), some (.ref l2), some (.ref l3), some (.int l4), some (.long (g21 i21)), none] [] Q)) : mi_W (d + 1) 196 166 [some (.ref l1), some (.ref l2), some (.ref l3), some (.int l4), some (.int l5), o6] [] (n, sl, f) Q := by
  refine w_aload_n cd_196_166 rfl ?_
  refine w_aload_n cd_196_167 rfl ?_
  refine w_putfield (w := .ref l3) cd_196_168 (show mt_f 12 445 = some (12, 43) by decide +kernel) h8 h9 ⟨h10, rfl, Or.inl (by decide)⟩ ?_
  refine w_aload_n cd_196_171 rfl ?_
  refine w_getfield cd_196_172 (show mt_f 12 101 = some (12, 20) by decide +kernel) h12 h13 h15 ?_
  refine w_aload_n cd_196_175 rfl ?_
  refine w_getfield cd_196_176 (show mt_f 12 496 = some (13, 0) by decide +kernel) h17 h18 h20 ?_
  refine w_laload cd_196_179 h22 h23 h24 ?_
  refine w_lstore (ls' := [some (.ref l1), some (.ref l2), some (.ref l3), some (.int l4), some (.long (g21 i21)), none]) cd_196_180 (Nat.le_of_ble_eq_true rfl) rfl ?_
  refine w_aload_n cd_196_182 rfl ?_
  refine w_lload cd_196_183 rfl ?_
  refine w_lload cd_196_185 rfl ?_
  refine w_iconst (v := 0) cd_196_187 (by decide) ?_
  exact w_invokevirtual cd_196_188 (show mt_m 12 529 = some (173, 0) by decide +kernel) (rest := []) rfl (as := [.ref l1, .long (g21 i21), .long (g21 i21), .int 0]) rfl h26 (Or.inl h27) ⟨Nat.le_of_ble_eq_true rfl, Nat.le_of_ble_eq_true rfl, Nat.le_of_ble_eq_true rfl⟩ h28
theorem b_196_191 {d : Nat} {Q : (Option Value ⊕ Nat) → mi_H → Prop} (n sl : Nat) (f : Nat → mi_C) {l1 : Nat} {l2 : Nat} {l3 : Nat} {l4 : Int32} {l5 : Int64} {s6 : Int32} {fs7 : List Value} (h8 : f l1 = .inr (12, fs7)) (h9 : l1 < n) (h10 : mi_W d 197 0 (mi_en 8 [.ref l1, .ref l3, .int s6, .int 4, .long l5, .int (-1)]) [] (n, sl, f) (mi_Kc d 196 199 [some (.ref l1), some (.ref l2), some (.ref l3), some (.int s6), some (.long l5), none] [] Q)) : mi_W (d + 1) 196 191 [some (.ref l1), some (.ref l2), some (.ref l3), some (.int l4), some (.long l5), none] [.int s6] (n, sl, f) Q := by
  refine w_istore_n (ls' := [some (.ref l1), some (.ref l2), some (.ref l3), some (.int s6), some (.long l5), none]) cd_196_191 (Nat.le_of_ble_eq_true rfl) rfl ?_
  refine w_aload_n cd_196_192 rfl ?_
  refine w_aload_n cd_196_193 rfl ?_
  refine w_iload_n cd_196_194 rfl ?_
  refine w_iconst (v := 4) cd_196_195 (by decide) ?_
  refine w_lload cd_196_196 rfl ?_
  refine w_iconst (v := (-1)) cd_196_198 (by decide) ?_
  exact w_invokevirtual cd_196_199 (show mt_m 12 575 = some (197, 0) by decide +kernel) (rest := []) rfl (as := [.ref l1, .ref l3, .int s6, .int 4, .long l5, .int (-1)]) rfl h8 (Or.inl h9) ⟨Nat.le_of_ble_eq_true rfl, Nat.le_of_ble_eq_true rfl, Nat.le_of_ble_eq_true rfl⟩ h10
theorem b_196_202 {d : Nat} {Q : (Option Value ⊕ Nat) → mi_H → Prop} (n sl : Nat) (f : Nat → mi_C) {l1 : Nat} {l2 : Nat} {l3 : Nat} {l4 : Int32} {l5 : Int64} {s6 : Int32} (h7 : Q (.inl (some (.int s6))) (n, sl, f)) : mi_W d 196 202 [some (.ref l1), some (.ref l2), some (.ref l3), some (.int l4), some (.long l5), none] [.int s6] (n, sl, f) Q := by
  exact w_ireturn_i cd_196_202 (by decide +kernel) h7
/-! MarloweHostModel.stepped(LMarloweHostModel$State;IIJI)I -/
theorem cd_197_0 : mt_cd 197 0 = some (.aload_n 0) := by decide +kernel
theorem cd_197_1 : mt_cd 197 1 = some (.dup) := by decide +kernel
theorem cd_197_2 : mt_cd 197 2 = some (.getfield 562) := by decide +kernel
theorem cd_197_5 : mt_cd 197 5 = some (.iconst 1) := by decide +kernel
theorem cd_197_6 : mt_cd 197 6 = some (.iadd) := by decide +kernel
theorem cd_197_7 : mt_cd 197 7 = some (.dup_x1) := by decide +kernel
theorem cd_197_8 : mt_cd 197 8 = some (.putfield 562) := by decide +kernel
theorem cd_197_11 : mt_cd 197 11 = some (.sipush 5000) := by decide +kernel
theorem cd_197_14 : mt_cd 197 14 = some (.if_icmp .le 5) := by decide +kernel
theorem cd_197_17 : mt_cd 197 17 = some (.iconst 2) := by decide +kernel
theorem cd_197_18 : mt_cd 197 18 = some (.ireturn) := by decide +kernel
theorem cd_197_19 : mt_cd 197 19 = some (.iload_n 2) := by decide +kernel
theorem cd_197_20 : mt_cd 197 20 = some (.ifCond .eq 5) := by decide +kernel
theorem cd_197_23 : mt_cd 197 23 = some (.iconst 0) := by decide +kernel
theorem cd_197_24 : mt_cd 197 24 = some (.ireturn) := by decide +kernel
theorem cd_197_25 : mt_cd 197 25 = some (.aload_n 0) := by decide +kernel
theorem cd_197_26 : mt_cd 197 26 = some (.getfield 211) := by decide +kernel
theorem cd_197_29 : mt_cd 197 29 = some (.aload_n 0) := by decide +kernel
theorem cd_197_30 : mt_cd 197 30 = some (.getfield 568) := by decide +kernel
theorem cd_197_33 : mt_cd 197 33 = some (.iload_n 3) := by decide +kernel
theorem cd_197_34 : mt_cd 197 34 = some (.iastore) := by decide +kernel
theorem cd_197_35 : mt_cd 197 35 = some (.aload_n 0) := by decide +kernel
theorem cd_197_36 : mt_cd 197 36 = some (.getfield 223) := by decide +kernel
theorem cd_197_39 : mt_cd 197 39 = some (.aload_n 0) := by decide +kernel
theorem cd_197_40 : mt_cd 197 40 = some (.getfield 568) := by decide +kernel
theorem cd_197_43 : mt_cd 197 43 = some (.lload 4) := by decide +kernel
theorem cd_197_45 : mt_cd 197 45 = some (.lastore) := by decide +kernel
theorem cd_197_46 : mt_cd 197 46 = some (.aload_n 0) := by decide +kernel
theorem cd_197_47 : mt_cd 197 47 = some (.getfield 214) := by decide +kernel
theorem cd_197_50 : mt_cd 197 50 = some (.aload_n 0) := by decide +kernel
theorem cd_197_51 : mt_cd 197 51 = some (.dup) := by decide +kernel
theorem cd_197_52 : mt_cd 197 52 = some (.getfield 568) := by decide +kernel
theorem cd_197_55 : mt_cd 197 55 = some (.dup_x1) := by decide +kernel
theorem cd_197_56 : mt_cd 197 56 = some (.iconst 1) := by decide +kernel
theorem cd_197_57 : mt_cd 197 57 = some (.iadd) := by decide +kernel
theorem cd_197_58 : mt_cd 197 58 = some (.putfield 568) := by decide +kernel
theorem cd_197_61 : mt_cd 197 61 = some (.iload 6) := by decide +kernel
theorem cd_197_63 : mt_cd 197 63 = some (.iastore) := by decide +kernel
theorem cd_197_64 : mt_cd 197 64 = some (.aload_n 0) := by decide +kernel
theorem cd_197_65 : mt_cd 197 65 = some (.getfield 490) := by decide +kernel
theorem cd_197_68 : mt_cd 197 68 = some (.ifCond .le 83) := by decide +kernel
theorem cd_197_71 : mt_cd 197 71 = some (.aload_n 0) := by decide +kernel
theorem cd_197_72 : mt_cd 197 72 = some (.aload_n 0) := by decide +kernel
theorem cd_197_73 : mt_cd 197 73 = some (.getfield 568) := by decide +kernel
theorem cd_197_76 : mt_cd 197 76 = some (.putfield 565) := by decide +kernel
theorem cd_197_79 : mt_cd 197 79 = some (.iconst 0) := by decide +kernel
theorem cd_197_80 : mt_cd 197 80 = some (.istore 7) := by decide +kernel
theorem cd_197_82 : mt_cd 197 82 = some (.iload 7) := by decide +kernel
theorem cd_197_84 : mt_cd 197 84 = some (.aload_n 0) := by decide +kernel
theorem cd_197_85 : mt_cd 197 85 = some (.getfield 568) := by decide +kernel
theorem cd_197_88 : mt_cd 197 88 = some (.if_icmp .ge 51) := by decide +kernel
theorem cd_197_91 : mt_cd 197 91 = some (.aload_n 0) := by decide +kernel
theorem cd_197_92 : mt_cd 197 92 = some (.getfield 217) := by decide +kernel
theorem cd_197_95 : mt_cd 197 95 = some (.iload 7) := by decide +kernel
theorem cd_197_97 : mt_cd 197 97 = some (.aload_n 0) := by decide +kernel
theorem cd_197_98 : mt_cd 197 98 = some (.getfield 211) := by decide +kernel
theorem cd_197_101 : mt_cd 197 101 = some (.iload 7) := by decide +kernel
theorem cd_197_103 : mt_cd 197 103 = some (.iaload) := by decide +kernel
theorem cd_197_104 : mt_cd 197 104 = some (.iastore) := by decide +kernel
theorem cd_197_105 : mt_cd 197 105 = some (.aload_n 0) := by decide +kernel
theorem cd_197_106 : mt_cd 197 106 = some (.getfield 226) := by decide +kernel
theorem cd_197_109 : mt_cd 197 109 = some (.iload 7) := by decide +kernel
theorem cd_197_111 : mt_cd 197 111 = some (.aload_n 0) := by decide +kernel
theorem cd_197_112 : mt_cd 197 112 = some (.getfield 223) := by decide +kernel
theorem cd_197_115 : mt_cd 197 115 = some (.iload 7) := by decide +kernel
theorem cd_197_117 : mt_cd 197 117 = some (.laload) := by decide +kernel
theorem cd_197_118 : mt_cd 197 118 = some (.lastore) := by decide +kernel
theorem cd_197_119 : mt_cd 197 119 = some (.aload_n 0) := by decide +kernel
theorem cd_197_120 : mt_cd 197 120 = some (.getfield 220) := by decide +kernel
theorem cd_197_123 : mt_cd 197 123 = some (.iload 7) := by decide +kernel
theorem cd_197_125 : mt_cd 197 125 = some (.aload_n 0) := by decide +kernel
theorem cd_197_126 : mt_cd 197 126 = some (.getfield 214) := by decide +kernel
theorem cd_197_129 : mt_cd 197 129 = some (.iload 7) := by decide +kernel
theorem cd_197_131 : mt_cd 197 131 = some (.iaload) := by decide +kernel
theorem cd_197_132 : mt_cd 197 132 = some (.iastore) := by decide +kernel
theorem cd_197_133 : mt_cd 197 133 = some (.iinc 7 1) := by decide +kernel
theorem cd_197_136 : mt_cd 197 136 = some (.goto (-54)) := by decide +kernel
theorem cd_197_139 : mt_cd 197 139 = some (.aload_n 0) := by decide +kernel
theorem cd_197_140 : mt_cd 197 140 = some (.dup) := by decide +kernel
theorem cd_197_141 : mt_cd 197 141 = some (.getfield 568) := by decide +kernel
theorem cd_197_144 : mt_cd 197 144 = some (.iconst 1) := by decide +kernel
theorem cd_197_145 : mt_cd 197 145 = some (.isub) := by decide +kernel
theorem cd_197_146 : mt_cd 197 146 = some (.putfield 568) := by decide +kernel
theorem cd_197_149 : mt_cd 197 149 = some (.iconst 1) := by decide +kernel
theorem cd_197_150 : mt_cd 197 150 = some (.ireturn) := by decide +kernel
theorem cd_197_151 : mt_cd 197 151 = some (.aload_n 0) := by decide +kernel
theorem cd_197_152 : mt_cd 197 152 = some (.aload_n 1) := by decide +kernel
theorem cd_197_153 : mt_cd 197 153 = some (.invokevirtual 571) := by decide +kernel
theorem cd_197_156 : mt_cd 197 156 = some (.istore 7) := by decide +kernel
theorem cd_197_158 : mt_cd 197 158 = some (.aload_n 0) := by decide +kernel
theorem cd_197_159 : mt_cd 197 159 = some (.dup) := by decide +kernel
theorem cd_197_160 : mt_cd 197 160 = some (.getfield 568) := by decide +kernel
theorem cd_197_163 : mt_cd 197 163 = some (.iconst 1) := by decide +kernel
theorem cd_197_164 : mt_cd 197 164 = some (.isub) := by decide +kernel
theorem cd_197_165 : mt_cd 197 165 = some (.putfield 568) := by decide +kernel
theorem cd_197_168 : mt_cd 197 168 = some (.iload 7) := by decide +kernel
theorem cd_197_170 : mt_cd 197 170 = some (.ireturn) := by decide +kernel
theorem b_197_0 {d : Nat} {Q : (Option Value ⊕ Nat) → mi_H → Prop} (n sl : Nat) (f : Nat → mi_C) {l1 : Nat} {l2 : Nat} {l3 : Int32} {l4 : Int32} {l5 : Int64} {l6 : Int32} {o7 : Option Value} {fs8 : List Value} {x11 : Int32} {fs13 : List Value} (h9 : f l1 = .inr (12, fs8)) (h10 : l1 < n) (h12 : fs8[73]? = some (.int x11)) (h14 : f l1 = .inr (12, fs13)) (h15 : l1 < n) (h16 : 73 < fs13.length) (h17 : (x11 + 1) ≤ 5000 → mi_W d 197 19 [some (.ref l1), some (.ref l2), some (.int l3), some (.int l4), some (.long l5), none, some (.int l6), o7] [] (n, sl, (va_up f l1 (.inr (12, fs13.set 73 (.int (x11 + 1)))))) Q) (h18 : ¬ ((x11 + 1) ≤ 5000) → mi_W d 197 17 [some (.ref l1), some (.ref l2), some (.int l3), some (.int l4), some (.long l5), none, some (.int l6), o7] [] (n, sl, (va_up f l1 (.inr (12, fs13.set 73 (.int (x11 + 1)))))) Q) : mi_W d 197 0 [some (.ref l1), some (.ref l2), some (.int l3), some (.int l4), some (.long l5), none, some (.int l6), o7] [] (n, sl, f) Q := by
  refine w_aload_n cd_197_0 rfl ?_
  refine w_dup_r cd_197_1 ?_
  refine w_getfield cd_197_2 (show mt_f 12 562 = some (12, 73) by decide +kernel) h9 h10 h12 ?_
  refine w_iconst (v := 1) cd_197_5 (by decide) ?_
  refine w_iadd cd_197_6 ?_
  refine w_dup_x1_ir cd_197_7 ?_
  refine w_putfield (w := .int (x11 + 1)) cd_197_8 (show mt_f 12 562 = some (12, 73) by decide +kernel) h14 h15 ⟨h16, rfl, Or.inl (by decide)⟩ ?_
  refine w_sipush (v := 5000) cd_197_11 (by decide) ?_
  exact w_if_icmple cd_197_14 (by decide) h17 h18
theorem b_197_17 {d : Nat} {Q : (Option Value ⊕ Nat) → mi_H → Prop} (n sl : Nat) (f : Nat → mi_C) {l1 : Nat} {l2 : Nat} {l3 : Int32} {l4 : Int32} {l5 : Int64} {l6 : Int32} {o7 : Option Value} (h8 : Q (.inl (some (.int 2))) (n, sl, f)) : mi_W d 197 17 [some (.ref l1), some (.ref l2), some (.int l3), some (.int l4), some (.long l5), none, some (.int l6), o7] [] (n, sl, f) Q := by
  refine w_iconst (v := 2) cd_197_17 (by decide) ?_
  exact w_ireturn_i cd_197_18 (by decide +kernel) h8
theorem b_197_19 {d : Nat} {Q : (Option Value ⊕ Nat) → mi_H → Prop} (n sl : Nat) (f : Nat → mi_C) {l1 : Nat} {l2 : Nat} {l3 : Int32} {l4 : Int32} {l5 : Int64} {l6 : Int32} {o7 : Option Value} (h8 : l3 = (0 : Int32) → mi_W d 197 25 [some (.ref l1), some (.ref l2), some (.int l3), some (.int l4), some (.long l5), none, some (.int l6), o7] [] (n, sl, f) Q) (h9 : ¬ (l3 = (0 : Int32)) → mi_W d 197 23 [some (.ref l1), some (.ref l2), some (.int l3), some (.int l4), some (.long l5), none, some (.int l6), o7] [] (n, sl, f) Q) : mi_W d 197 19 [some (.ref l1), some (.ref l2), some (.int l3), some (.int l4), some (.long l5), none, some (.int l6), o7] [] (n, sl, f) Q := by
  refine w_iload_n cd_197_19 rfl ?_
  exact w_ifeq cd_197_20 (by decide) h8 h9
theorem b_197_23 {d : Nat} {Q : (Option Value ⊕ Nat) → mi_H → Prop} (n sl : Nat) (f : Nat → mi_C) {l1 : Nat} {l2 : Nat} {l3 : Int32} {l4 : Int32} {l5 : Int64} {l6 : Int32} {o7 : Option Value} (h8 : Q (.inl (some (.int 0))) (n, sl, f)) : mi_W d 197 23 [some (.ref l1), some (.ref l2), some (.int l3), some (.int l4), some (.long l5), none, some (.int l6), o7] [] (n, sl, f) Q := by
  refine w_iconst (v := 0) cd_197_23 (by decide) ?_
  exact w_ireturn_i cd_197_24 (by decide +kernel) h8
theorem b_197_25 {d : Nat} {Q : (Option Value ⊕ Nat) → mi_H → Prop} (n sl : Nat) (f : Nat → mi_C) {l1 : Nat} {l2 : Nat} {l3 : Int32} {l4 : Int32} {l5 : Int64} {l6 : Int32} {o7 : Option Value} {fs8 : List Value} {x11 : Nat} {fs13 : List Value} {x16 : Int32} (m18 i18 : Nat) (g18 : Nat → Int32) {fs22 : List Value} {x25 : Nat} {fs27 : List Value} {x30 : Int32} (m32 i32 : Nat) (g32 : Nat → Int64) {fs36 : List Value} {x39 : Nat} {fs41 : List Value} {x44 : Int32} {fs46 : List Value} (m50 i50 : Nat) (g50 : Nat → Int32) {fs54 : List Value} {x57 : Int32} (h9 : f l1 = .inr (12, fs8)) (h10 : l1 < n) (h12 : fs8[76]? = some (.ref x11)) (h14 : f l1 = .inr (12, fs13)) (h15 : l1 < n) (h17 : fs13[74]? = some (.int x16)) (h19 : f x11 = .inl (0, m18, .inl g18)) (h20 : x11 < n) (h21 : mi_ix x16 m18 i18) (h23 : (va_up f x11 (.inl (0, m18, .inl (upd g18 i18 l4)))) l1 = .inr (12, fs22)) (h24 : l1 < n) (h26 : fs22[80]? = some (.ref x25)) (h28 : (va_up f x11 (.inl (0, m18, .inl (upd g18 i18 l4)))) l1 = .inr (12, fs27)) (h29 : l1 < n) (h31 : fs27[74]? = some (.int x30)) (h33 : (va_up f x11 (.inl (0, m18, .inl (upd g18 i18 l4)))) x25 = .inl (3, m32, .inr (.inl g32))) (h34 : x25 < n) (h35 : mi_ix x30 m32 i32) (h37 : (va_up (va_up f x11 (.inl (0, m18, .inl (upd g18 i18 l4)))) x25 (.inl (3, m32, .inr (.inl (vp_updL g32 i32 l5))))) l1 = .inr (12, fs36)) (h38 : l1 < n) (h40 : fs36[77]? = some (.ref x39)) (h42 : (va_up (va_up f x11 (.inl (0, m18, .inl (upd g18 i18 l4)))) x25 (.inl (3, m32, .inr (.inl (vp_updL g32 i32 l5))))) l1 = .inr (12, fs41)) (h43 : l1 < n) (h45 : fs41[74]? = some (.int x44)) (h47 : (va_up (va_up f x11 (.inl (0, m18, .inl (upd g18 i18 l4)))) x25 (.inl (3, m32, .inr (.inl (vp_updL g32 i32 l5))))) l1 = .inr (12, fs46)) (h48 : l1 < n) (h49 : 74 < fs46.length) (h51 : (va_up (va_up (va_up f x11 (.inl (0, m18, .inl (upd g18 i18 l4)))) x25 (.inl (3, m32, .inr (.inl (vp_updL g32 i32 l5))))) l1 (.inr (12, fs46.set 74 (.int (x44 + 1))))) x39 = .inl (0, m50, .inl g50)) (h52 : x39 < n) (h53 : mi_ix x44 m50 i50) (h55 : (va_up (va_up (va_up (va_up f x11 (.inl (0, m18, .inl (upd g18 i18 l4)))) x25 (.inl (3, m32, .inr (.inl (vp_updL g32 i32 l5))))) l1 (.inr (12, fs46.set 74 (.int (x44 + 1))))) x39 (.inl (0, m50, .inl (upd g50 i50 l6)))) l1 = .inr (12, fs54)) (h56 : l1 < n) (h58 : fs54[47]? = some (.int x57)) (h59 : x57 ≤ (0 : Int32) → mi_W d 197 151 [some (.ref l1), some (.ref l2), some (.int l3), some (.int l4), some (.long l5), none, some (.int l6), o7] [] (n, sl, (va_up (va_up (va_up (va_up f x11 (.inl (0, m18, .inl (upd g18 i18 l4)))) x25 (.inl (3, m32, .inr (.inl (vp_updL g32 i32 l5))))) l1 (.inr (12, fs46.set 74 (.int (x44 + 1))))) x39 (.inl (0, m50, .inl (upd g50 i50 l6))))) Q) (h60 : ¬ (x57 ≤ (0 : Int32)) → mi_W d 197 71 [some (.ref l1), some (.ref l2), some (.int l3), some (.int l4), some (.long l5), none, some (.int l6), o7] [] (n, sl, (va_up (va_up (va_up (va_up f x11 (.inl (0, m18, .inl (upd g18 i18 l4)))) x25 (.inl (3, m32, .inr (.inl (vp_updL g32 i32 l5))))) l1 (.inr (12, fs46.set 74 (.int (x44 + 1))))) x39 (.inl (0, m50, .inl (upd g50 i50 l6))))) Q) : mi_W d 197 25 [some (.ref l1), some (.ref l2), some (.int l3), some (.int l4), some (.long l5), none, some (.int l6), o7] [] (n, sl, f) Q := by
  refine w_aload_n cd_197_25 rfl ?_
  refine w_getfield cd_197_26 (show mt_f 12 211 = some (12, 76) by decide +kernel) h9 h10 h12 ?_
  refine w_aload_n cd_197_29 rfl ?_
  refine w_getfield cd_197_30 (show mt_f 12 568 = some (12, 74) by decide +kernel) h14 h15 h17 ?_
  refine w_iload_n cd_197_33 rfl ?_
  refine w_iastore cd_197_34 h19 h20 h21 ?_
  refine w_aload_n cd_197_35 rfl ?_
  refine w_getfield cd_197_36 (show mt_f 12 223 = some (12, 80) by decide +kernel) h23 h24 h26 ?_
  refine w_aload_n cd_197_39 rfl ?_
  refine w_getfield cd_197_40 (show mt_f 12 568 = some (12, 74) by decide +kernel) h28 h29 h31 ?_
  refine w_lload cd_197_43 rfl ?_
  refine w_lastore cd_197_45 h33 h34 h35 ?_
  refine w_aload_n cd_197_46 rfl ?_
  refine w_getfield cd_197_47 (show mt_f 12 214 = some (12, 77) by decide +kernel) h37 h38 h40 ?_
  refine w_aload_n cd_197_50 rfl ?_
  refine w_dup_r cd_197_51 ?_
  refine w_getfield cd_197_52 (show mt_f 12 568 = some (12, 74) by decide +kernel) h42 h43 h45 ?_
  refine w_dup_x1_ir cd_197_55 ?_
  refine w_iconst (v := 1) cd_197_56 (by decide) ?_
  refine w_iadd cd_197_57 ?_
  refine w_putfield (w := .int (x44 + 1)) cd_197_58 (show mt_f 12 568 = some (12, 74) by decide +kernel) h47 h48 ⟨h49, rfl, Or.inl (by decide)⟩ ?_
  refine w_iload cd_197_61 rfl ?_
  refine w_iastore cd_197_63 h51 h52 h53 ?_
  refine w_aload_n cd_197_64 rfl ?_
  refine w_getfield cd_197_65 (show mt_f 12 490 = some (12, 47) by decide +kernel) h55 h56 h58 ?_
  exact w_ifle cd_197_68 (by decide) h59 h60
theorem b_197_71 {d : Nat} {Q : (Option Value ⊕ Nat) → mi_H → Prop} (n sl : Nat) (f : Nat → mi_C) {l1 : Nat} {l2 : Nat} {l3 : Int32} {l4 : Int32} {l5 : Int64} {l6 : Int32} {o7 : Option Value} {fs8 : List Value} {x11 : Int32} {fs13 : List Value} (h9 : f l1 = .inr (12, fs8)) (h10 : l1 < n) (h12 : fs8[74]? = some (.int x11)) (h14 : f l1 = .inr (12, fs13)) (h15 : l1 < n) (h16 : 75 < fs13.length) (h17 : mi_W d 197 82 [some (.ref l1), some (.ref l2), some (.int l3), some (.int l4), some (.long l5), none, some (.int l6), some (.int 0)] [] (n, sl, (va_up f l1 (.inr (12, fs13.set 75 (.int x11))))) Q) : mi_W d 197 71 [some (.ref l1), some (.ref l2), some (.int l3), some (.int l4), some (.long l5), none, some (.int l6), o7] [] (n, sl, f) Q := by
  refine w_aload_n cd_197_71 rfl ?_
  refine w_aload_n cd_197_72 rfl ?_
  refine w_getfield cd_197_73 (show mt_f 12 568 = some (12, 74) by decide +kernel) h9 h10 h12 ?_
  refine w_putfield (w := .int x11) cd_197_76 (show mt_f 12 565 = some (12, 75) by decide +kernel) h14 h15 ⟨h16, rfl, Or.inl (by decide)⟩ ?_
  refine w_iconst (v := 0) cd_197_79 (by decide) ?_
  refine w_istore (ls' := [some (.ref l1), some (.ref l2), some (.int l3), some (.int l4), some (.long l5), none, some (.int l6), some (.int 0)]) cd_197_80 (Nat.le_of_ble_eq_true rfl) rfl ?_
  exact h17
theorem b_197_82 {d : Nat} {Q : (Option Value ⊕ Nat) → mi_H → Prop} (n sl : Nat) (f : Nat → mi_C) {l1 : Nat} {l2 : Nat} {l3 : Int32} {l4 : Int32} {l5 : Int64} {l6 : Int32} {l7 : Int32} {fs8 : List Value} {x11 : Int32} (h9 : f l1 = .inr (12, fs8)) (h10 : l1 < n) (h12 : fs8[74]? = some (.int x11)) (h13 : x11 ≤ l7 → mi_W d 197 139 [some (.ref l1), some (.ref l2), some (.int l3), some (.int l4), some (.long l5), none, some (.int l6), some (.int l7)] [] (n, sl, f) Q) (h14 : ¬ (x11 ≤ l7) → mi_W d 197 91 [some (.ref l1), some (.ref l2), some (.int l3), some (.int l4), some (.long l5), none, some (.int l6), some (.int l7)] [] (n, sl, f) Q) : mi_W d 197 82 [some (.ref l1), some (.ref l2), some (.int l3), some (.int l4), some (.long l5), none, some (.int l6), some (.int l7)] [] (n, sl, f) Q := by
  refine w_iload cd_197_82 rfl ?_
  refine w_aload_n cd_197_84 rfl ?_
  refine w_getfield cd_197_85 (show mt_f 12 568 = some (12, 74) by decide +kernel) h9 h10 h12 ?_
  exact w_if_icmpge cd_197_88 (by decide) h13 h14
theorem b_197_91 {d : Nat} {Q : (Option Value ⊕ Nat) → mi_H → Prop} (n sl : Nat) (f : Nat → mi_C) {l1 : Nat} {l2 : Nat} {l3 : Int32} {l4 : Int32} {l5 : Int64} {l6 : Int32} {l7 : Int32} {fs8 : List Value} {x11 : Nat} {fs13 : List Value} {x16 : Nat} (m18 i18 : Nat) (g18 : Nat → Int32) (m22 i22 : Nat) (g22 : Nat → Int32) {fs26 : List Value} {x29 : Nat} {fs31 : List Value} {x34 : Nat} (m36 i36 : Nat) (g36 : Nat → Int64) (m40 i40 : Nat) (g40 : Nat → Int64) {fs44 : List Value} {x47 : Nat} {fs49 : List Value} {x52 : Nat} (m54 i54 : Nat) (g54 : Nat → Int32) (m58 i58 : Nat) (g58 : Nat → Int32) (h9 : f l1 = .inr (12, fs8)) (h10 : l1 < n) (h12 : fs8[78]? = some (.ref x11)) (h14 : f l1 = .inr (12, fs13)) (h15 : l1 < n) (h17 : fs13[76]? = some (.ref x16)) (h19 : f x16 = .inl (0, m18, .inl g18)) (h20 : x16 < n ∨ x16 = mi_SC) (h21 : mi_ix l7 m18 i18) (h23 : f x11 = .inl (0, m22, .inl g22)) (h24 : x11 < n) (h25 : mi_ix l7 m22 i22) (h27 : (va_up f x11 (.inl (0, m22, .inl (upd g22 i22 (g18 i18))))) l1 = .inr (12, fs26)) (h28 : l1 < n) (h30 : fs26[81]? = some (.ref x29)) (h32 : (va_up f x11 (.inl (0, m22, .inl (upd g22 i22 (g18 i18))))) l1 = .inr (12, fs31)) (h33 : l1 < n) (h35 : fs31[80]? = some (.ref x34)) (h37 : (va_up f x11 (.inl (0, m22, .inl (upd g22 i22 (g18 i18))))) x34 = .inl (3, m36, .inr (.inl g36))) (h38 : x34 < n) (h39 : mi_ix l7 m36 i36) (h41 : (va_up f x11 (.inl (0, m22, .inl (upd g22 i22 (g18 i18))))) x29 = .inl (3, m40, .inr (.inl g40))) (h42 : x29 < n) (h43 : mi_ix l7 m40 i40) (h45 : (va_up (va_up f x11 (.inl (0, m22, .inl (upd g22 i22 (g18 i18))))) x29 (.inl (3, m40, .inr (.inl (vp_updL g40 i40 (g36 i36)))))) l1 = .inr (12, fs44)) (h46 : l1 < n) (h48 : fs44[79]? = some (.ref x47)) (h50 : (va_up (va_up f x11 (.inl (0, m22, .inl (upd g22 i22 (g18 i18))))) x29 (.inl (3, m40, .inr (.inl (vp_updL g40 i40 (g36 i36)))))) l1 = .inr (12, fs49)) (h51 : l1 < n) (h53 : fs49[77]? = some (.ref x52)) (h55 : (va_up (va_up f x11 (.inl (0, m22, .inl (upd g22 i22 (g18 i18))))) x29 (.inl (3, m40, .inr (.inl (vp_updL g40 i40 (g36 i36)))))) x52 = .inl (0, m54, .inl g54)) (h56 : x52 < n ∨ x52 = mi_SC) (h57 : mi_ix l7 m54 i54) (h59 : (va_up (va_up f x11 (.inl (0, m22, .inl (upd g22 i22 (g18 i18))))) x29 (.inl (3, m40, .inr (.inl (vp_updL g40 i40 (g36 i36)))))) x47 = .inl (0, m58, .inl g58)) (h60 : x47 < n) (h61 : mi_ix l7 m58 i58) (h62 : mi_W d 197 82 [some (.ref l1), some (.ref l2), some (.int l3), some (.int l4), some (.long l5), none, some (.int l6), some (.int (l7 + 1))] [] (n, sl, (va_up (va_up (va_up f x11 (.inl (0, m22, .inl (upd g22 i22 (g18 i18))))) x29 (.inl (3, m40, .inr (.inl (vp_updL g40 i40 (g36 i36)))))) x47 (.inl (0, m58, .inl (upd g58 i58 (g54 i54)))))) Q) : mi_W d 197 91 [some (.ref l1), some (.ref l2), some (.int l3), some (.int l4), some (.long l5), none, some (.int l6), some (.int l7)] [] (n, sl, f) Q := by
  refine w_aload_n cd_197_91 rfl ?_
  refine w_getfield cd_197_92 (show mt_f 12 217 = some (12, 78) by decide +kernel) h9 h10 h12 ?_
  refine w_iload cd_197_95 rfl ?_
  refine w_aload_n cd_197_97 rfl ?_
  refine w_getfield cd_197_98 (show mt_f 12 211 = some (12, 76) by decide +kernel) h14 h15 h17 ?_
  refine w_iload cd_197_101 rfl ?_
  refine w_iaload cd_197_103 h19 h20 h21 ?_
  refine w_iastore cd_197_104 h23 h24 h25 ?_
  refine w_aload_n cd_197_105 rfl ?_
  refine w_getfield cd_197_106 (show mt_f 12 226 = some (12, 81) by decide +kernel) h27 h28 h30 ?_
  refine w_iload cd_197_109 rfl ?_
  refine w_aload_n cd_197_111 rfl ?_
  refine w_getfield cd_197_112 (show mt_f 12 223 = some (12, 80) by decide +kernel) h32 h33 h35 ?_
  refine w_iload cd_197_115 rfl ?_
  refine w_laload cd_197_117 h37 h38 h39 ?_
  refine w_lastore cd_197_118 h41 h42 h43 ?_
  refine w_aload_n cd_197_119 rfl ?_
  refine w_getfield cd_197_120 (show mt_f 12 220 = some (12, 79) by decide +kernel) h45 h46 h48 ?_
  refine w_iload cd_197_123 rfl ?_
  refine w_aload_n cd_197_125 rfl ?_
  refine w_getfield cd_197_126 (show mt_f 12 214 = some (12, 77) by decide +kernel) h50 h51 h53 ?_
  refine w_iload cd_197_129 rfl ?_
  refine w_iaload cd_197_131 h55 h56 h57 ?_
  refine w_iastore cd_197_132 h59 h60 h61 ?_
  refine w_iinc (v := 1) (ls' := [some (.ref l1), some (.ref l2), some (.int l3), some (.int l4), some (.long l5), none, some (.int l6), some (.int (l7 + 1))]) cd_197_133 rfl (by decide) rfl ?_
  exact w_goto cd_197_136 (by decide) h62
theorem b_197_139 {d : Nat} {Q : (Option Value ⊕ Nat) → mi_H → Prop} (n sl : Nat) (f : Nat → mi_C) {l1 : Nat} {l2 : Nat} {l3 : Int32} {l4 : Int32} {l5 : Int64} {l6 : Int32} {l7 : Int32} {fs8 : List Value} {x11 : Int32} {fs13 : List Value} (h9 : f l1 = .inr (12, fs8)) (h10 : l1 < n) (h12 : fs8[74]? = some (.int x11)) (h14 : f l1 = .inr (12, fs13)) (h15 : l1 < n) (h16 : 74 < fs13.length) (h17 : Q (.inl (some (.int 1))) (n, sl, (va_up f l1 (.inr (12, fs13.set 74 (.int (x11 - 1))))))) : mi_W d 197 139 [some (.ref l1), some (.ref l2), some (.int l3), some (.int l4), some (.long l5), none, some (.int l6), some (.int l7)] [] (n, sl, f) Q := by
  refine w_aload_n cd_197_139 rfl ?_
  refine w_dup_r cd_197_140 ?_
  refine w_getfield cd_197_141 (show mt_f 12 568 = some (12, 74) by decide +kernel) h9 h10 h12 ?_
  refine w_iconst (v := 1) cd_197_144 (by decide) ?_
  refine w_isub cd_197_145 ?_
  refine w_putfield (w := .int (x11 - 1)) cd_197_146 (show mt_f 12 568 = some (12, 74) by decide +kernel) h14 h15 ⟨h16, rfl, Or.inl (by decide)⟩ ?_
  refine w_iconst (v := 1) cd_197_149 (by decide) ?_
  exact w_ireturn_i cd_197_150 (by decide +kernel) h17
theorem b_197_151 {d : Nat} {Q : (Option Value ⊕ Nat) → mi_H → Prop} (n sl : Nat) (f : Nat → mi_C) {l1 : Nat} {l2 : Nat} {l3 : Int32} {l4 : Int32} {l5 : Int64} {l6 : Int32} {o7 : Option Value} {fs8 : List Value} (h9 : f l1 = .inr (12, fs8)) (h10 : l1 < n) (h11 : mi_W d 196 0 (mi_en 6 [.ref l1, .ref l2]) [] (n, sl, f) (mi_Kc d 197 153 [some (.ref l1), some (.ref l2), some (.int l3), some (.int l4), some (.long l5), none, some (.int l6), o7] [] Q)) : mi_W (d + 1) 197 151 [some (.ref l1), some (.ref l2), some (.int l3), some (.int l4), some (.long l5), none, some (.int l6), o7] [] (n, sl, f) Q := by
  refine w_aload_n cd_197_151 rfl ?_
  refine w_aload_n cd_197_152 rfl ?_
  exact w_invokevirtual cd_197_153 (show mt_m 12 571 = some (196, 0) by decide +kernel) (rest := []) rfl (as := [.ref l1, .ref l2]) rfl h9 (Or.inl h10) ⟨Nat.le_of_ble_eq_true rfl, Nat.le_of_ble_eq_true rfl, Nat.le_of_ble_eq_true rfl⟩ h11
theorem b_197_156 {d : Nat} {Q : (Option Value ⊕ Nat) → mi_H → Prop} (n sl : Nat) (f : Nat → mi_C) {l1 : Nat} {l2 : Nat} {l3 : Int32} {l4 : Int32} {l5 : Int64} {l6 : Int32} {o7 : Option Value} {s8 : Int32} {fs9 : List Value} {x12 : Int32} {fs14 : List Value} (h10 : f l1 = .inr (12, fs9)) (h11 : l1 < n) (h13 : fs9[74]? = some (.int x12)) (h15 : f l1 = .inr (12, fs14)) (h16 : l1 < n) (h17 : 74 < fs14.length) (h18 : Q (.inl (some (.int s8))) (n, sl, (va_up f l1 (.inr (12, fs14.set 74 (.int (x12 - 1))))))) : mi_W d 197 156 [some (.ref l1), some (.ref l2), some (.int l3), some (.int l4), some (.long l5), none, some (.int l6), o7] [.int s8] (n, sl, f) Q := by
  refine w_istore (ls' := [some (.ref l1), some (.ref l2), some (.int l3), some (.int l4), some (.long l5), none, some (.int l6), some (.int s8)]) cd_197_156 (Nat.le_of_ble_eq_true rfl) rfl ?_
  refine w_aload_n cd_197_158 rfl ?_
  refine w_dup_r cd_197_159 ?_
  refine w_getfield cd_197_160 (show mt_f 12 568 = some (12, 74) by decide +kernel) h10 h11 h13 ?_
  refine w_iconst (v := 1) cd_197_163 (by decide) ?_
  refine w_isub cd_197_164 ?_
  refine w_putfield (w := .int (x12 - 1)) cd_197_165 (show mt_f 12 568 = some (12, 74) by decide +kernel) h15 h16 ⟨h17, rfl, Or.inl (by decide)⟩ ?_
  refine w_iload cd_197_168 rfl ?_
  exact w_ireturn_i cd_197_170 (by decide +kernel) h18
end
