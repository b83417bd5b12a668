section
/-! MarloweHostModel.pay(IIIJ)V -/
set_option maxRecDepth 100000 in
theorem mq_176 : mt_q 176 = my_176 := rfl
set_option maxRecDepth 100000 in
theorem ci_176 : mt_inc 0 my_176.cd = true := by decide +kernel
theorem cd_176_0 : mt_cd 176 0 = some (.aload_n 0) := mt_cd_of (q := (0, .aload_n 0, 1)) mq_176 ci_176 (List.mem_of_getElem? (i := 0) rfl)
theorem cd_176_1 : mt_cd 176 1 = some (.getfield 160) := mt_cd_of (q := (1, .getfield 160, 3)) mq_176 ci_176 (List.mem_of_getElem? (i := 1) rfl)
theorem cd_176_4 : mt_cd 176 4 = some (.aload_n 0) := mt_cd_of (q := (4, .aload_n 0, 1)) mq_176 ci_176 (List.mem_of_getElem? (i := 2) rfl)
theorem cd_176_5 : mt_cd 176 5 = some (.getfield 493) := mt_cd_of (q := (5, .getfield 493, 3)) mq_176 ci_176 (List.mem_of_getElem? (i := 3) rfl)
theorem cd_176_8 : mt_cd 176 8 = some (.iload_n 1) := mt_cd_of (q := (8, .iload_n 1, 1)) mq_176 ci_176 (List.mem_of_getElem? (i := 4) rfl)
theorem cd_176_9 : mt_cd 176 9 = some (.iastore) := mt_cd_of (q := (9, .iastore, 1)) mq_176 ci_176 (List.mem_of_getElem? (i := 5) rfl)
theorem cd_176_10 : mt_cd 176 10 = some (.aload_n 0) := mt_cd_of (q := (10, .aload_n 0, 1)) mq_176 ci_176 (List.mem_of_getElem? (i := 6) rfl)
theorem cd_176_11 : mt_cd 176 11 = some (.getfield 163) := mt_cd_of (q := (11, .getfield 163, 3)) mq_176 ci_176 (List.mem_of_getElem? (i := 7) rfl)
theorem cd_176_14 : mt_cd 176 14 = some (.aload_n 0) := mt_cd_of (q := (14, .aload_n 0, 1)) mq_176 ci_176 (List.mem_of_getElem? (i := 8) rfl)
theorem cd_176_15 : mt_cd 176 15 = some (.getfield 493) := mt_cd_of (q := (15, .getfield 493, 3)) mq_176 ci_176 (List.mem_of_getElem? (i := 9) rfl)
theorem cd_176_18 : mt_cd 176 18 = some (.iload_n 2) := mt_cd_of (q := (18, .iload_n 2, 1)) mq_176 ci_176 (List.mem_of_getElem? (i := 10) rfl)
theorem cd_176_19 : mt_cd 176 19 = some (.iastore) := mt_cd_of (q := (19, .iastore, 1)) mq_176 ci_176 (List.mem_of_getElem? (i := 11) rfl)
theorem cd_176_20 : mt_cd 176 20 = some (.aload_n 0) := mt_cd_of (q := (20, .aload_n 0, 1)) mq_176 ci_176 (List.mem_of_getElem? (i := 12) rfl)
theorem cd_176_21 : mt_cd 176 21 = some (.getfield 166) := mt_cd_of (q := (21, .getfield 166, 3)) mq_176 ci_176 (List.mem_of_getElem? (i := 13) rfl)
theorem cd_176_24 : mt_cd 176 24 = some (.aload_n 0) := mt_cd_of (q := (24, .aload_n 0, 1)) mq_176 ci_176 (List.mem_of_getElem? (i := 14) rfl)
theorem cd_176_25 : mt_cd 176 25 = some (.getfield 493) := mt_cd_of (q := (25, .getfield 493, 3)) mq_176 ci_176 (List.mem_of_getElem? (i := 15) rfl)
theorem cd_176_28 : mt_cd 176 28 = some (.iload_n 3) := mt_cd_of (q := (28, .iload_n 3, 1)) mq_176 ci_176 (List.mem_of_getElem? (i := 16) rfl)
theorem cd_176_29 : mt_cd 176 29 = some (.iastore) := mt_cd_of (q := (29, .iastore, 1)) mq_176 ci_176 (List.mem_of_getElem? (i := 17) rfl)
theorem cd_176_30 : mt_cd 176 30 = some (.aload_n 0) := mt_cd_of (q := (30, .aload_n 0, 1)) mq_176 ci_176 (List.mem_of_getElem? (i := 18) rfl)
theorem cd_176_31 : mt_cd 176 31 = some (.getfield 169) := mt_cd_of (q := (31, .getfield 169, 3)) mq_176 ci_176 (List.mem_of_getElem? (i := 19) rfl)
theorem cd_176_34 : mt_cd 176 34 = some (.aload_n 0) := mt_cd_of (q := (34, .aload_n 0, 1)) mq_176 ci_176 (List.mem_of_getElem? (i := 20) rfl)
theorem cd_176_35 : mt_cd 176 35 = some (.dup) := mt_cd_of (q := (35, .dup, 1)) mq_176 ci_176 (List.mem_of_getElem? (i := 21) rfl)
theorem cd_176_36 : mt_cd 176 36 = some (.getfield 493) := mt_cd_of (q := (36, .getfield 493, 3)) mq_176 ci_176 (List.mem_of_getElem? (i := 22) rfl)
theorem cd_176_39 : mt_cd 176 39 = some (.dup_x1) := mt_cd_of (q := (39, .dup_x1, 1)) mq_176 ci_176 (List.mem_of_getElem? (i := 23) rfl)
theorem cd_176_40 : mt_cd 176 40 = some (.iconst 1) := mt_cd_of (q := (40, .iconst 1, 1)) mq_176 ci_176 (List.mem_of_getElem? (i := 24) rfl)
theorem cd_176_41 : mt_cd 176 41 = some (.iadd) := mt_cd_of (q := (41, .iadd, 1)) mq_176 ci_176 (List.mem_of_getElem? (i := 25) rfl)
theorem cd_176_42 : mt_cd 176 42 = some (.putfield 493) := mt_cd_of (q := (42, .putfield 493, 3)) mq_176 ci_176 (List.mem_of_getElem? (i := 26) rfl)
theorem cd_176_45 : mt_cd 176 45 = some (.lload 4) := mt_cd_of (q := (45, .lload 4, 2)) mq_176 ci_176 (List.mem_of_getElem? (i := 27) rfl)
theorem cd_176_47 : mt_cd 176 47 = some (.lastore) := mt_cd_of (q := (47, .lastore, 1)) mq_176 ci_176 (List.mem_of_getElem? (i := 28) rfl)
theorem cd_176_48 : mt_cd 176 48 = some (.return_) := mt_cd_of (q := (48, .return_, 1)) mq_176 ci_176 (List.mem_of_getElem? (i := 29) rfl)
theorem b_176_0 {d : Nat} {Q : (Option Value ⊕ Nat) → mi_H → Prop} (n sl : Nat) (f : Nat → mi_C) {l1 : Nat} {l2 : Int32} {l3 : Int32} {l4 : Int32} {l5 : Int64} {fs6 : List Value} {x9 : Nat} {fs11 : List Value} {x14 : Int32} (m16 i16 : Nat) (g16 : Nat → Int32) {fs20 : List Value} {x23 : Nat} {fs25 : List Value} {x28 : Int32} (m30 i30 : Nat) (g30 : Nat → Int32) {fs34 : List Value} {x37 : Nat} {fs39 : List Value} {x42 : Int32} (m44 i44 : Nat) (g44 : Nat → Int32) {fs48 : List Value} {x51 : Nat} {fs53 : List Value} {x56 : Int32} {fs58 : List Value} (m62 i62 : Nat) (g62 : Nat → Int64) (h7 : f l1 = .inr (12, fs6)) (h8 : l1 < n) (h10 : fs6[51]? = some (.ref x9)) (h12 : f l1 = .inr (12, fs11)) (h13 : l1 < n) (h15 : fs11[48]? = some (.int x14)) (h17 : f x9 = .inl (0, m16, .inl g16)) (h18 : x9 < n) (h19 : mi_ix x14 m16 i16) (h21 : (va_up f x9 (.inl (0, m16, .inl (upd g16 i16 l2)))) l1 = .inr (12, fs20)) (h22 : l1 < n) (h24 : fs20[52]? = some (.ref x23)) (h26 : (va_up f x9 (.inl (0, m16, .inl (upd g16 i16 l2)))) l1 = .inr (12, fs25)) (h27 : l1 < n) (h29 : fs25[48]? = some (.int x28)) (h31 : (va_up f x9 (.inl (0, m16, .inl (upd g16 i16 l2)))) x23 = .inl (0, m30, .inl g30)) (h32 : x23 < n) (h33 : mi_ix x28 m30 i30) (h35 : (va_up (va_up f x9 (.inl (0, m16, .inl (upd g16 i16 l2)))) x23 (.inl (0, m30, .inl (upd g30 i30 l3)))) l1 = .inr (12, fs34)) (h36 : l1 < n) (h38 : fs34[53]? = some (.ref x37)) (h40 : (va_up (va_up f x9 (.inl (0, m16, .inl (upd g16 i16 l2)))) x23 (.inl (0, m30, .inl (upd g30 i30 l3)))) l1 = .inr (12, fs39)) (h41 : l1 < n) (h43 : fs39[48]? = some (.int x42)) (h45 : (va_up (va_up f x9 (.inl (0, m16, .inl (upd g16 i16 l2)))) x23 (.inl (0, m30, .inl (upd g30 i30 l3)))) x37 = .inl (0, m44, .inl g44)) (h46 : x37 < n) (h47 : mi_ix x42 m44 i44) (h49 : (va_up (va_up (va_up f x9 (.inl (0, m16, .inl (upd g16 i16 l2)))) x23 (.inl (0, m30, .inl (upd g30 i30 l3)))) x37 (.inl (0, m44, .inl (upd g44 i44 l4)))) l1 = .inr (12, fs48)) (h50 : l1 < n) (h52 : fs48[54]? = some (.ref x51)) (h54 : (va_up (va_up (va_up f x9 (.inl (0, m16, .inl (upd g16 i16 l2)))) x23 (.inl (0, m30, .inl (upd g30 i30 l3)))) x37 (.inl (0, m44, .inl (upd g44 i44 l4)))) l1 = .inr (12, fs53)) (h55 : l1 < n) (h57 : fs53[48]? = some (.int x56)) (h59 : (va_up (va_up (va_up f x9 (.inl (0, m16, .inl (upd g16 i16 l2)))) x23 (.inl (0, m30, .inl (upd g30 i30 l3)))) x37 (.inl (0, m44, .inl (upd g44 i44 l4)))) l1 = .inr (12, fs58)) (h60 : l1 < n) (h61 : 48 < fs58.length) (h63 : (va_up (va_up (va_up (va_up f x9 (.inl (0, m16, .inl (upd g16 i16 l2)))) x23 (.inl (0, m30, .inl (upd g30 i30 l3)))) x37 (.inl (0, m44, .inl (upd g44 i44 l4)))) l1 (.inr (12, fs58.set 48 (.int (x56 + 1))))) x51 = .inl (3, m62, .inr (.inl g62))) (h64 : x51 < n) (h65 : mi_ix x56 m62 i62) (h66 : Q (.inl none) (n, sl, (va_up (va_up (va_up (va_up (va_up f x9 (.inl (0, m16, .inl (upd g16 i16 l2)))) x23 (.inl (0, m30, .inl (upd g30 i30 l3)))) x37 (.inl (0, m44, .inl (upd g44 i44 l4)))) l1 (.inr (12, fs58.set 48 (.int (x56 + 1))))) x51 (.inl (3, m62, .inr (.inl (vp_updL g62 i62 l5))))))) : mi_W d 176 0 [some (.ref l1), some (.int l2), some (.int l3), some (.int l4), some (.long l5), none] [] (n, sl, f) Q := by
  refine w_aload_n cd_176_0 rfl ?_
  refine w_getfield cd_176_1 (show mt_f 12 160 = some (12, 51) by decide +kernel) h7 h8 h10 ?_
  refine w_aload_n cd_176_4 rfl ?_
  refine w_getfield cd_176_5 (show mt_f 12 493 = some (12, 48) by decide +kernel) h12 h13 h15 ?_
  refine w_iload_n cd_176_8 rfl ?_
  refine w_iastore cd_176_9 h17 h18 h19 ?_
  refine w_aload_n cd_176_10 rfl ?_
  refine w_getfield cd_176_11 (show mt_f 12 163 = some (12, 52) by decide +kernel) h21 h22 h24 ?_
  refine w_aload_n cd_176_14 rfl ?_
  refine w_getfield cd_176_15 (show mt_f 12 493 = some (12, 48) by decide +kernel) h26 h27 h29 ?_
  refine w_iload_n cd_176_18 rfl ?_
  refine w_iastore cd_176_19 h31 h32 h33 ?_
  refine w_aload_n cd_176_20 rfl ?_
  refine w_getfield cd_176_21 (show mt_f 12 166 = some (12, 53) by decide +kernel) h35 h36 h38 ?_
  refine w_aload_n cd_176_24 rfl ?_
  refine w_getfield cd_176_25 (show mt_f 12 493 = some (12, 48) by decide +kernel) h40 h41 h43 ?_
  refine w_iload_n cd_176_28 rfl ?_
  refine w_iastore cd_176_29 h45 h46 h47 ?_
  refine w_aload_n cd_176_30 rfl ?_
  refine w_getfield cd_176_31 (show mt_f 12 169 = some (12, 54) by decide +kernel) h49 h50 h52 ?_
  refine w_aload_n cd_176_34 rfl ?_
  refine w_dup_r cd_176_35 ?_
  refine w_getfield cd_176_36 (show mt_f 12 493 = some (12, 48) by decide +kernel) h54 h55 h57 ?_
  refine w_dup_x1_ir cd_176_39 ?_
  refine w_iconst (v := 1) cd_176_40 (by decide) ?_
  refine w_iadd cd_176_41 ?_
  refine w_putfield (w := .int (x56 + 1)) cd_176_42 (show mt_f 12 493 = some (12, 48) by decide +kernel) h59 h60 ⟨h61, rfl, Or.inl (by decide)⟩ ?_
  refine w_lload cd_176_45 rfl ?_
  refine w_lastore cd_176_47 h63 h64 h65 ?_
  exact w_return cd_176_48 (by decide +kernel) h66
/-! MarloweHostModel.tell(I)J -/
set_option maxRecDepth 100000 in
theorem mq_177 : mt_q 177 = my_177 := rfl
set_option maxRecDepth 100000 in
theorem ci_177 : mt_inc 0 my_177.cd = true := by decide +kernel
theorem cd_177_0 : mt_cd 177 0 = some (.aload_n 0) := mt_cd_of (q := (0, .aload_n 0, 1)) mq_177 ci_177 (List.mem_append_left _ (show _ ∈ my_177_0 from List.mem_of_getElem? (i := 0) rfl))
theorem cd_177_1 : mt_cd 177 1 = some (.getfield 441) := mt_cd_of (q := (1, .getfield 441, 3)) mq_177 ci_177 (List.mem_append_left _ (show _ ∈ my_177_0 from List.mem_of_getElem? (i := 1) rfl))
theorem cd_177_4 : mt_cd 177 4 = some (.ifCond .eq 5) := mt_cd_of (q := (4, .ifCond .eq 5, 3)) mq_177 ci_177 (List.mem_append_left _ (show _ ∈ my_177_0 from List.mem_of_getElem? (i := 2) rfl))
theorem cd_177_7 : mt_cd 177 7 = some (.lconst 0) := mt_cd_of (q := (7, .lconst 0, 1)) mq_177 ci_177 (List.mem_append_left _ (show _ ∈ my_177_0 from List.mem_of_getElem? (i := 3) rfl))
theorem cd_177_8 : mt_cd 177 8 = some (.lreturn) := mt_cd_of (q := (8, .lreturn, 1)) mq_177 ci_177 (List.mem_append_left _ (show _ ∈ my_177_0 from List.mem_of_getElem? (i := 4) rfl))
theorem cd_177_9 : mt_cd 177 9 = some (.aload_n 0) := mt_cd_of (q := (9, .aload_n 0, 1)) mq_177 ci_177 (List.mem_append_left _ (show _ ∈ my_177_0 from List.mem_of_getElem? (i := 5) rfl))
theorem cd_177_10 : mt_cd 177 10 = some (.getfield 77) := mt_cd_of (q := (10, .getfield 77, 3)) mq_177 ci_177 (List.mem_append_left _ (show _ ∈ my_177_0 from List.mem_of_getElem? (i := 6) rfl))
theorem cd_177_13 : mt_cd 177 13 = some (.iload_n 1) := mt_cd_of (q := (13, .iload_n 1, 1)) mq_177 ci_177 (List.mem_append_left _ (show _ ∈ my_177_0 from List.mem_of_getElem? (i := 7) rfl))
theorem cd_177_14 : mt_cd 177 14 = some (.iaload) := mt_cd_of (q := (14, .iaload, 1)) mq_177 ci_177 (List.mem_append_left _ (show _ ∈ my_177_0 from List.mem_of_getElem? (i := 8) rfl))
theorem cd_177_15 : mt_cd 177 15 = some (.tableswitch 235 10 21 #[61, 68, 92, 235, 235, 235, 235, 108, 144, 180, 189, 198]) := mt_cd_of (q := (15, .tableswitch 235 10 21 #[61, 68, 92, 235, 235, 235, 235, 108, 144, 180, 189, 198], 61)) mq_177 ci_177 (List.mem_append_left _ (show _ ∈ my_177_0 from List.mem_of_getElem? (i := 9) rfl))
theorem cd_177_76 : mt_cd 177 76 = some (.aload_n 0) := mt_cd_of (q := (76, .aload_n 0, 1)) mq_177 ci_177 (List.mem_append_left _ (show _ ∈ my_177_0 from List.mem_of_getElem? (i := 10) rfl))
theorem cd_177_77 : mt_cd 177 77 = some (.getfield 101) := mt_cd_of (q := (77, .getfield 101, 3)) mq_177 ci_177 (List.mem_append_left _ (show _ ∈ my_177_0 from List.mem_of_getElem? (i := 11) rfl))
theorem cd_177_80 : mt_cd 177 80 = some (.iload_n 1) := mt_cd_of (q := (80, .iload_n 1, 1)) mq_177 ci_177 (List.mem_append_left _ (show _ ∈ my_177_0 from List.mem_of_getElem? (i := 12) rfl))
theorem cd_177_81 : mt_cd 177 81 = some (.laload) := mt_cd_of (q := (81, .laload, 1)) mq_177 ci_177 (List.mem_append_left _ (show _ ∈ my_177_0 from List.mem_of_getElem? (i := 13) rfl))
theorem cd_177_82 : mt_cd 177 82 = some (.lreturn) := mt_cd_of (q := (82, .lreturn, 1)) mq_177 ci_177 (List.mem_append_left _ (show _ ∈ my_177_0 from List.mem_of_getElem? (i := 14) rfl))
theorem cd_177_83 : mt_cd 177 83 = some (.aload_n 0) := mt_cd_of (q := (83, .aload_n 0, 1)) mq_177 ci_177 (List.mem_append_left _ (show _ ∈ my_177_0 from List.mem_of_getElem? (i := 15) rfl))
theorem cd_177_84 : mt_cd 177 84 = some (.getfield 445) := mt_cd_of (q := (84, .getfield 445, 3)) mq_177 ci_177 (List.mem_append_left _ (show _ ∈ my_177_0 from List.mem_of_getElem? (i := 16) rfl))
theorem cd_177_87 : mt_cd 177 87 = some (.getfield 448) := mt_cd_of (q := (87, .getfield 448, 3)) mq_177 ci_177 (List.mem_append_left _ (show _ ∈ my_177_0 from List.mem_of_getElem? (i := 17) rfl))
theorem cd_177_90 : mt_cd 177 90 = some (.iconst 4) := mt_cd_of (q := (90, .iconst 4, 1)) mq_177 ci_177 (List.mem_append_left _ (show _ ∈ my_177_0 from List.mem_of_getElem? (i := 18) rfl))
theorem cd_177_91 : mt_cd 177 91 = some (.aload_n 0) := mt_cd_of (q := (91, .aload_n 0, 1)) mq_177 ci_177 (List.mem_append_left _ (show _ ∈ my_177_0 from List.mem_of_getElem? (i := 19) rfl))
theorem cd_177_92 : mt_cd 177 92 = some (.getfield 80) := mt_cd_of (q := (92, .getfield 80, 3)) mq_177 ci_177 (List.mem_append_left _ (show _ ∈ my_177_0 from List.mem_of_getElem? (i := 20) rfl))
theorem cd_177_95 : mt_cd 177 95 = some (.iload_n 1) := mt_cd_of (q := (95, .iload_n 1, 1)) mq_177 ci_177 (List.mem_append_left _ (show _ ∈ my_177_0 from List.mem_of_getElem? (i := 21) rfl))
theorem cd_177_96 : mt_cd 177 96 = some (.iaload) := mt_cd_of (q := (96, .iaload, 1)) mq_177 ci_177 (List.mem_append_left _ (show _ ∈ my_177_0 from List.mem_of_getElem? (i := 22) rfl))
theorem cd_177_97 : mt_cd 177 97 = some (.imul) := mt_cd_of (q := (97, .imul, 1)) mq_177 ci_177 (List.mem_append_left _ (show _ ∈ my_177_0 from List.mem_of_getElem? (i := 23) rfl))
theorem cd_177_98 : mt_cd 177 98 = some (.aload_n 0) := mt_cd_of (q := (98, .aload_n 0, 1)) mq_177 ci_177 (List.mem_append_left _ (show _ ∈ my_177_0 from List.mem_of_getElem? (i := 24) rfl))
theorem cd_177_99 : mt_cd 177 99 = some (.getfield 86) := mt_cd_of (q := (99, .getfield 86, 3)) mq_177 ci_177 (List.mem_append_left _ (show _ ∈ my_177_0 from List.mem_of_getElem? (i := 25) rfl))
theorem cd_177_102 : mt_cd 177 102 = some (.iload_n 1) := mt_cd_of (q := (102, .iload_n 1, 1)) mq_177 ci_177 (List.mem_append_left _ (show _ ∈ my_177_0 from List.mem_of_getElem? (i := 26) rfl))
theorem cd_177_103 : mt_cd 177 103 = some (.iaload) := mt_cd_of (q := (103, .iaload, 1)) mq_177 ci_177 (List.mem_append_left _ (show _ ∈ my_177_0 from List.mem_of_getElem? (i := 27) rfl))
theorem cd_177_104 : mt_cd 177 104 = some (.iadd) := mt_cd_of (q := (104, .iadd, 1)) mq_177 ci_177 (List.mem_append_left _ (show _ ∈ my_177_0 from List.mem_of_getElem? (i := 28) rfl))
theorem cd_177_105 : mt_cd 177 105 = some (.laload) := mt_cd_of (q := (105, .laload, 1)) mq_177 ci_177 (List.mem_append_left _ (show _ ∈ my_177_0 from List.mem_of_getElem? (i := 29) rfl))
theorem cd_177_106 : mt_cd 177 106 = some (.lreturn) := mt_cd_of (q := (106, .lreturn, 1)) mq_177 ci_177 (List.mem_append_left _ (show _ ∈ my_177_0 from List.mem_of_getElem? (i := 30) rfl))
theorem cd_177_107 : mt_cd 177 107 = some (.aload_n 0) := mt_cd_of (q := (107, .aload_n 0, 1)) mq_177 ci_177 (List.mem_append_left _ (show _ ∈ my_177_0 from List.mem_of_getElem? (i := 31) rfl))
theorem cd_177_108 : mt_cd 177 108 = some (.aload_n 0) := mt_cd_of (q := (108, .aload_n 0, 1)) mq_177 ci_177 (List.mem_append_left _ (show _ ∈ my_177_0 from List.mem_of_getElem? (i := 32) rfl))
theorem cd_177_109 : mt_cd 177 109 = some (.aload_n 0) := mt_cd_of (q := (109, .aload_n 0, 1)) mq_177 ci_177 (List.mem_append_left _ (show _ ∈ my_177_0 from List.mem_of_getElem? (i := 33) rfl))
theorem cd_177_110 : mt_cd 177 110 = some (.getfield 80) := mt_cd_of (q := (110, .getfield 80, 3)) mq_177 ci_177 (List.mem_append_left _ (show _ ∈ my_177_0 from List.mem_of_getElem? (i := 34) rfl))
theorem cd_177_113 : mt_cd 177 113 = some (.iload_n 1) := mt_cd_of (q := (113, .iload_n 1, 1)) mq_177 ci_177 (List.mem_append_left _ (show _ ∈ my_177_0 from List.mem_of_getElem? (i := 35) rfl))
theorem cd_177_114 : mt_cd 177 114 = some (.iaload) := mt_cd_of (q := (114, .iaload, 1)) mq_177 ci_177 (List.mem_append_left _ (show _ ∈ my_177_0 from List.mem_of_getElem? (i := 36) rfl))
theorem cd_177_115 : mt_cd 177 115 = some (.invokevirtual 451) := mt_cd_of (q := (115, .invokevirtual 451, 3)) mq_177 ci_177 (List.mem_append_left _ (show _ ∈ my_177_0 from List.mem_of_getElem? (i := 37) rfl))
theorem cd_177_118 : mt_cd 177 118 = some (.lneg) := mt_cd_of (q := (118, .lneg, 1)) mq_177 ci_177 (List.mem_append_left _ (show _ ∈ my_177_0 from List.mem_of_getElem? (i := 38) rfl))
theorem cd_177_119 : mt_cd 177 119 = some (.invokevirtual 455) := mt_cd_of (q := (119, .invokevirtual 455, 3)) mq_177 ci_177 (List.mem_append_left _ (show _ ∈ my_177_0 from List.mem_of_getElem? (i := 39) rfl))
theorem cd_177_122 : mt_cd 177 122 = some (.lreturn) := mt_cd_of (q := (122, .lreturn, 1)) mq_177 ci_177 (List.mem_append_left _ (show _ ∈ my_177_0 from List.mem_of_getElem? (i := 40) rfl))
theorem cd_177_123 : mt_cd 177 123 = some (.aload_n 0) := mt_cd_of (q := (123, .aload_n 0, 1)) mq_177 ci_177 (List.mem_append_left _ (show _ ∈ my_177_0 from List.mem_of_getElem? (i := 41) rfl))
theorem cd_177_124 : mt_cd 177 124 = some (.getfield 445) := mt_cd_of (q := (124, .getfield 445, 3)) mq_177 ci_177 (List.mem_append_left _ (show _ ∈ my_177_0 from List.mem_of_getElem? (i := 42) rfl))
theorem cd_177_127 : mt_cd 177 127 = some (.getfield 459) := mt_cd_of (q := (127, .getfield 459, 3)) mq_177 ci_177 (List.mem_append_left _ (show _ ∈ my_177_0 from List.mem_of_getElem? (i := 43) rfl))
theorem cd_177_130 : mt_cd 177 130 = some (.aload_n 0) := mt_cd_of (q := (130, .aload_n 0, 1)) mq_177 ci_177 (List.mem_append_left _ (show _ ∈ my_177_0 from List.mem_of_getElem? (i := 44) rfl))
theorem cd_177_131 : mt_cd 177 131 = some (.getfield 80) := mt_cd_of (q := (131, .getfield 80, 3)) mq_177 ci_177 (List.mem_append_left _ (show _ ∈ my_177_0 from List.mem_of_getElem? (i := 45) rfl))
theorem cd_177_134 : mt_cd 177 134 = some (.iload_n 1) := mt_cd_of (q := (134, .iload_n 1, 1)) mq_177 ci_177 (List.mem_append_left _ (show _ ∈ my_177_0 from List.mem_of_getElem? (i := 46) rfl))
theorem cd_177_135 : mt_cd 177 135 = some (.iaload) := mt_cd_of (q := (135, .iaload, 1)) mq_177 ci_177 (List.mem_append_left _ (show _ ∈ my_177_0 from List.mem_of_getElem? (i := 47) rfl))
theorem cd_177_136 : mt_cd 177 136 = some (.baload) := mt_cd_of (q := (136, .baload, 1)) mq_177 ci_177 (List.mem_append_left _ (show _ ∈ my_177_0 from List.mem_of_getElem? (i := 48) rfl))
theorem cd_177_137 : mt_cd 177 137 = some (.ifCond .eq 20) := mt_cd_of (q := (137, .ifCond .eq 20, 3)) mq_177 ci_177 (List.mem_append_left _ (show _ ∈ my_177_0 from List.mem_of_getElem? (i := 49) rfl))
theorem cd_177_140 : mt_cd 177 140 = some (.aload_n 0) := mt_cd_of (q := (140, .aload_n 0, 1)) mq_177 ci_177 (List.mem_append_left _ (show _ ∈ my_177_0 from List.mem_of_getElem? (i := 50) rfl))
theorem cd_177_141 : mt_cd 177 141 = some (.getfield 445) := mt_cd_of (q := (141, .getfield 445, 3)) mq_177 ci_177 (List.mem_append_left _ (show _ ∈ my_177_0 from List.mem_of_getElem? (i := 51) rfl))
theorem cd_177_144 : mt_cd 177 144 = some (.getfield 463) := mt_cd_of (q := (144, .getfield 463, 3)) mq_177 ci_177 (List.mem_append_left _ (show _ ∈ my_177_0 from List.mem_of_getElem? (i := 52) rfl))
theorem cd_177_147 : mt_cd 177 147 = some (.aload_n 0) := mt_cd_of (q := (147, .aload_n 0, 1)) mq_177 ci_177 (List.mem_append_left _ (show _ ∈ my_177_0 from List.mem_of_getElem? (i := 53) rfl))
theorem cd_177_148 : mt_cd 177 148 = some (.getfield 80) := mt_cd_of (q := (148, .getfield 80, 3)) mq_177 ci_177 (List.mem_append_left _ (show _ ∈ my_177_0 from List.mem_of_getElem? (i := 54) rfl))
theorem cd_177_151 : mt_cd 177 151 = some (.iload_n 1) := mt_cd_of (q := (151, .iload_n 1, 1)) mq_177 ci_177 (List.mem_append_left _ (show _ ∈ my_177_0 from List.mem_of_getElem? (i := 55) rfl))
theorem cd_177_152 : mt_cd 177 152 = some (.iaload) := mt_cd_of (q := (152, .iaload, 1)) mq_177 ci_177 (List.mem_append_left _ (show _ ∈ my_177_0 from List.mem_of_getElem? (i := 56) rfl))
theorem cd_177_153 : mt_cd 177 153 = some (.laload) := mt_cd_of (q := (153, .laload, 1)) mq_177 ci_177 (List.mem_append_left _ (show _ ∈ my_177_0 from List.mem_of_getElem? (i := 57) rfl))
theorem cd_177_154 : mt_cd 177 154 = some (.goto 4) := mt_cd_of (q := (154, .goto 4, 3)) mq_177 ci_177 (List.mem_append_left _ (show _ ∈ my_177_0 from List.mem_of_getElem? (i := 58) rfl))
theorem cd_177_157 : mt_cd 177 157 = some (.lconst 0) := mt_cd_of (q := (157, .lconst 0, 1)) mq_177 ci_177 (List.mem_append_left _ (show _ ∈ my_177_0 from List.mem_of_getElem? (i := 59) rfl))
theorem cd_177_158 : mt_cd 177 158 = some (.lreturn) := mt_cd_of (q := (158, .lreturn, 1)) mq_177 ci_177 (List.mem_append_right _ (List.mem_append_left _ (show _ ∈ my_177_1 from List.mem_of_getElem? (i := 0) rfl)))
theorem cd_177_159 : mt_cd 177 159 = some (.aload_n 0) := mt_cd_of (q := (159, .aload_n 0, 1)) mq_177 ci_177 (List.mem_append_right _ (List.mem_append_left _ (show _ ∈ my_177_1 from List.mem_of_getElem? (i := 1) rfl)))
theorem cd_177_160 : mt_cd 177 160 = some (.getfield 445) := mt_cd_of (q := (160, .getfield 445, 3)) mq_177 ci_177 (List.mem_append_right _ (List.mem_append_left _ (show _ ∈ my_177_1 from List.mem_of_getElem? (i := 2) rfl)))
theorem cd_177_163 : mt_cd 177 163 = some (.getfield 465) := mt_cd_of (q := (163, .getfield 465, 3)) mq_177 ci_177 (List.mem_append_right _ (List.mem_append_left _ (show _ ∈ my_177_1 from List.mem_of_getElem? (i := 3) rfl)))
theorem cd_177_166 : mt_cd 177 166 = some (.aload_n 0) := mt_cd_of (q := (166, .aload_n 0, 1)) mq_177 ci_177 (List.mem_append_right _ (List.mem_append_left _ (show _ ∈ my_177_1 from List.mem_of_getElem? (i := 4) rfl)))
theorem cd_177_167 : mt_cd 177 167 = some (.getfield 80) := mt_cd_of (q := (167, .getfield 80, 3)) mq_177 ci_177 (List.mem_append_right _ (List.mem_append_left _ (show _ ∈ my_177_1 from List.mem_of_getElem? (i := 5) rfl)))
theorem cd_177_170 : mt_cd 177 170 = some (.iload_n 1) := mt_cd_of (q := (170, .iload_n 1, 1)) mq_177 ci_177 (List.mem_append_right _ (List.mem_append_left _ (show _ ∈ my_177_1 from List.mem_of_getElem? (i := 6) rfl)))
theorem cd_177_171 : mt_cd 177 171 = some (.iaload) := mt_cd_of (q := (171, .iaload, 1)) mq_177 ci_177 (List.mem_append_right _ (List.mem_append_left _ (show _ ∈ my_177_1 from List.mem_of_getElem? (i := 7) rfl)))
theorem cd_177_172 : mt_cd 177 172 = some (.baload) := mt_cd_of (q := (172, .baload, 1)) mq_177 ci_177 (List.mem_append_right _ (List.mem_append_left _ (show _ ∈ my_177_1 from List.mem_of_getElem? (i := 8) rfl)))
theorem cd_177_173 : mt_cd 177 173 = some (.ifCond .eq 20) := mt_cd_of (q := (173, .ifCond .eq 20, 3)) mq_177 ci_177 (List.mem_append_right _ (List.mem_append_left _ (show _ ∈ my_177_1 from List.mem_of_getElem? (i := 9) rfl)))
theorem cd_177_176 : mt_cd 177 176 = some (.aload_n 0) := mt_cd_of (q := (176, .aload_n 0, 1)) mq_177 ci_177 (List.mem_append_right _ (List.mem_append_left _ (show _ ∈ my_177_1 from List.mem_of_getElem? (i := 10) rfl)))
theorem cd_177_177 : mt_cd 177 177 = some (.getfield 445) := mt_cd_of (q := (177, .getfield 445, 3)) mq_177 ci_177 (List.mem_append_right _ (List.mem_append_left _ (show _ ∈ my_177_1 from List.mem_of_getElem? (i := 11) rfl)))
theorem cd_177_180 : mt_cd 177 180 = some (.getfield 468) := mt_cd_of (q := (180, .getfield 468, 3)) mq_177 ci_177 (List.mem_append_right _ (List.mem_append_left _ (show _ ∈ my_177_1 from List.mem_of_getElem? (i := 12) rfl)))
theorem cd_177_183 : mt_cd 177 183 = some (.aload_n 0) := mt_cd_of (q := (183, .aload_n 0, 1)) mq_177 ci_177 (List.mem_append_right _ (List.mem_append_left _ (show _ ∈ my_177_1 from List.mem_of_getElem? (i := 13) rfl)))
theorem cd_177_184 : mt_cd 177 184 = some (.getfield 80) := mt_cd_of (q := (184, .getfield 80, 3)) mq_177 ci_177 (List.mem_append_right _ (List.mem_append_left _ (show _ ∈ my_177_1 from List.mem_of_getElem? (i := 14) rfl)))
theorem cd_177_187 : mt_cd 177 187 = some (.iload_n 1) := mt_cd_of (q := (187, .iload_n 1, 1)) mq_177 ci_177 (List.mem_append_right _ (List.mem_append_left _ (show _ ∈ my_177_1 from List.mem_of_getElem? (i := 15) rfl)))
theorem cd_177_188 : mt_cd 177 188 = some (.iaload) := mt_cd_of (q := (188, .iaload, 1)) mq_177 ci_177 (List.mem_append_right _ (List.mem_append_left _ (show _ ∈ my_177_1 from List.mem_of_getElem? (i := 16) rfl)))
theorem cd_177_189 : mt_cd 177 189 = some (.laload) := mt_cd_of (q := (189, .laload, 1)) mq_177 ci_177 (List.mem_append_right _ (List.mem_append_left _ (show _ ∈ my_177_1 from List.mem_of_getElem? (i := 17) rfl)))
theorem cd_177_190 : mt_cd 177 190 = some (.goto 4) := mt_cd_of (q := (190, .goto 4, 3)) mq_177 ci_177 (List.mem_append_right _ (List.mem_append_left _ (show _ ∈ my_177_1 from List.mem_of_getElem? (i := 18) rfl)))
theorem cd_177_193 : mt_cd 177 193 = some (.lconst 0) := mt_cd_of (q := (193, .lconst 0, 1)) mq_177 ci_177 (List.mem_append_right _ (List.mem_append_left _ (show _ ∈ my_177_1 from List.mem_of_getElem? (i := 19) rfl)))
theorem cd_177_194 : mt_cd 177 194 = some (.lreturn) := mt_cd_of (q := (194, .lreturn, 1)) mq_177 ci_177 (List.mem_append_right _ (List.mem_append_left _ (show _ ∈ my_177_1 from List.mem_of_getElem? (i := 20) rfl)))
theorem cd_177_195 : mt_cd 177 195 = some (.aload_n 0) := mt_cd_of (q := (195, .aload_n 0, 1)) mq_177 ci_177 (List.mem_append_right _ (List.mem_append_left _ (show _ ∈ my_177_1 from List.mem_of_getElem? (i := 21) rfl)))
theorem cd_177_196 : mt_cd 177 196 = some (.aload_n 0) := mt_cd_of (q := (196, .aload_n 0, 1)) mq_177 ci_177 (List.mem_append_right _ (List.mem_append_left _ (show _ ∈ my_177_1 from List.mem_of_getElem? (i := 22) rfl)))
theorem cd_177_197 : mt_cd 177 197 = some (.getfield 471) := mt_cd_of (q := (197, .getfield 471, 3)) mq_177 ci_177 (List.mem_append_right _ (List.mem_append_left _ (show _ ∈ my_177_1 from List.mem_of_getElem? (i := 23) rfl)))
theorem cd_177_200 : mt_cd 177 200 = some (.invokevirtual 455) := mt_cd_of (q := (200, .invokevirtual 455, 3)) mq_177 ci_177 (List.mem_append_right _ (List.mem_append_left _ (show _ ∈ my_177_1 from List.mem_of_getElem? (i := 24) rfl)))
theorem cd_177_203 : mt_cd 177 203 = some (.lreturn) := mt_cd_of (q := (203, .lreturn, 1)) mq_177 ci_177 (List.mem_append_right _ (List.mem_append_left _ (show _ ∈ my_177_1 from List.mem_of_getElem? (i := 25) rfl)))
theorem cd_177_204 : mt_cd 177 204 = some (.aload_n 0) := mt_cd_of (q := (204, .aload_n 0, 1)) mq_177 ci_177 (List.mem_append_right _ (List.mem_append_left _ (show _ ∈ my_177_1 from List.mem_of_getElem? (i := 26) rfl)))
theorem cd_177_205 : mt_cd 177 205 = some (.aload_n 0) := mt_cd_of (q := (205, .aload_n 0, 1)) mq_177 ci_177 (List.mem_append_right _ (List.mem_append_left _ (show _ ∈ my_177_1 from List.mem_of_getElem? (i := 27) rfl)))
theorem cd_177_206 : mt_cd 177 206 = some (.getfield 474) := mt_cd_of (q := (206, .getfield 474, 3)) mq_177 ci_177 (List.mem_append_right _ (List.mem_append_left _ (show _ ∈ my_177_1 from List.mem_of_getElem? (i := 28) rfl)))
theorem cd_177_209 : mt_cd 177 209 = some (.invokevirtual 455) := mt_cd_of (q := (209, .invokevirtual 455, 3)) mq_177 ci_177 (List.mem_append_right _ (List.mem_append_left _ (show _ ∈ my_177_1 from List.mem_of_getElem? (i := 29) rfl)))
theorem cd_177_212 : mt_cd 177 212 = some (.lreturn) := mt_cd_of (q := (212, .lreturn, 1)) mq_177 ci_177 (List.mem_append_right _ (List.mem_append_left _ (show _ ∈ my_177_1 from List.mem_of_getElem? (i := 30) rfl)))
theorem cd_177_213 : mt_cd 177 213 = some (.aload_n 0) := mt_cd_of (q := (213, .aload_n 0, 1)) mq_177 ci_177 (List.mem_append_right _ (List.mem_append_left _ (show _ ∈ my_177_1 from List.mem_of_getElem? (i := 31) rfl)))
theorem cd_177_214 : mt_cd 177 214 = some (.aload_n 0) := mt_cd_of (q := (214, .aload_n 0, 1)) mq_177 ci_177 (List.mem_append_right _ (List.mem_append_left _ (show _ ∈ my_177_1 from List.mem_of_getElem? (i := 32) rfl)))
theorem cd_177_215 : mt_cd 177 215 = some (.getfield 89) := mt_cd_of (q := (215, .getfield 89, 3)) mq_177 ci_177 (List.mem_append_right _ (List.mem_append_left _ (show _ ∈ my_177_1 from List.mem_of_getElem? (i := 33) rfl)))
theorem cd_177_218 : mt_cd 177 218 = some (.iload_n 1) := mt_cd_of (q := (218, .iload_n 1, 1)) mq_177 ci_177 (List.mem_append_right _ (List.mem_append_left _ (show _ ∈ my_177_1 from List.mem_of_getElem? (i := 34) rfl)))
theorem cd_177_219 : mt_cd 177 219 = some (.iaload) := mt_cd_of (q := (219, .iaload, 1)) mq_177 ci_177 (List.mem_append_right _ (List.mem_append_left _ (show _ ∈ my_177_1 from List.mem_of_getElem? (i := 35) rfl)))
theorem cd_177_220 : mt_cd 177 220 = some (.invokevirtual 477) := mt_cd_of (q := (220, .invokevirtual 477, 3)) mq_177 ci_177 (List.mem_append_right _ (List.mem_append_left _ (show _ ∈ my_177_1 from List.mem_of_getElem? (i := 36) rfl)))
theorem cd_177_223 : mt_cd 177 223 = some (.ifCond .eq 16) := mt_cd_of (q := (223, .ifCond .eq 16, 3)) mq_177 ci_177 (List.mem_append_right _ (List.mem_append_left _ (show _ ∈ my_177_1 from List.mem_of_getElem? (i := 37) rfl)))
theorem cd_177_226 : mt_cd 177 226 = some (.aload_n 0) := mt_cd_of (q := (226, .aload_n 0, 1)) mq_177 ci_177 (List.mem_append_right _ (List.mem_append_left _ (show _ ∈ my_177_1 from List.mem_of_getElem? (i := 38) rfl)))
theorem cd_177_227 : mt_cd 177 227 = some (.aload_n 0) := mt_cd_of (q := (227, .aload_n 0, 1)) mq_177 ci_177 (List.mem_append_right _ (List.mem_append_left _ (show _ ∈ my_177_1 from List.mem_of_getElem? (i := 39) rfl)))
theorem cd_177_228 : mt_cd 177 228 = some (.getfield 80) := mt_cd_of (q := (228, .getfield 80, 3)) mq_177 ci_177 (List.mem_append_right _ (List.mem_append_left _ (show _ ∈ my_177_1 from List.mem_of_getElem? (i := 40) rfl)))
theorem cd_177_231 : mt_cd 177 231 = some (.iload_n 1) := mt_cd_of (q := (231, .iload_n 1, 1)) mq_177 ci_177 (List.mem_append_right _ (List.mem_append_left _ (show _ ∈ my_177_1 from List.mem_of_getElem? (i := 41) rfl)))
theorem cd_177_232 : mt_cd 177 232 = some (.iaload) := mt_cd_of (q := (232, .iaload, 1)) mq_177 ci_177 (List.mem_append_right _ (List.mem_append_left _ (show _ ∈ my_177_1 from List.mem_of_getElem? (i := 42) rfl)))
theorem cd_177_233 : mt_cd 177 233 = some (.invokevirtual 451) := mt_cd_of (q := (233, .invokevirtual 451, 3)) mq_177 ci_177 (List.mem_append_right _ (List.mem_append_left _ (show _ ∈ my_177_1 from List.mem_of_getElem? (i := 43) rfl)))
theorem cd_177_236 : mt_cd 177 236 = some (.goto 13) := mt_cd_of (q := (236, .goto 13, 3)) mq_177 ci_177 (List.mem_append_right _ (List.mem_append_left _ (show _ ∈ my_177_1 from List.mem_of_getElem? (i := 44) rfl)))
theorem cd_177_239 : mt_cd 177 239 = some (.aload_n 0) := mt_cd_of (q := (239, .aload_n 0, 1)) mq_177 ci_177 (List.mem_append_right _ (List.mem_append_left _ (show _ ∈ my_177_1 from List.mem_of_getElem? (i := 45) rfl)))
theorem cd_177_240 : mt_cd 177 240 = some (.aload_n 0) := mt_cd_of (q := (240, .aload_n 0, 1)) mq_177 ci_177 (List.mem_append_right _ (List.mem_append_left _ (show _ ∈ my_177_1 from List.mem_of_getElem? (i := 46) rfl)))
theorem cd_177_241 : mt_cd 177 241 = some (.getfield 83) := mt_cd_of (q := (241, .getfield 83, 3)) mq_177 ci_177 (List.mem_append_right _ (List.mem_append_left _ (show _ ∈ my_177_1 from List.mem_of_getElem? (i := 47) rfl)))
theorem cd_177_244 : mt_cd 177 244 = some (.iload_n 1) := mt_cd_of (q := (244, .iload_n 1, 1)) mq_177 ci_177 (List.mem_append_right _ (List.mem_append_left _ (show _ ∈ my_177_1 from List.mem_of_getElem? (i := 48) rfl)))
theorem cd_177_245 : mt_cd 177 245 = some (.iaload) := mt_cd_of (q := (245, .iaload, 1)) mq_177 ci_177 (List.mem_append_right _ (List.mem_append_left _ (show _ ∈ my_177_1 from List.mem_of_getElem? (i := 49) rfl)))
theorem cd_177_246 : mt_cd 177 246 = some (.invokevirtual 451) := mt_cd_of (q := (246, .invokevirtual 451, 3)) mq_177 ci_177 (List.mem_append_right _ (List.mem_append_left _ (show _ ∈ my_177_1 from List.mem_of_getElem? (i := 50) rfl)))
theorem cd_177_249 : mt_cd 177 249 = some (.lreturn) := mt_cd_of (q := (249, .lreturn, 1)) mq_177 ci_177 (List.mem_append_right _ (List.mem_append_left _ (show _ ∈ my_177_1 from List.mem_of_getElem? (i := 51) rfl)))
theorem cd_177_250 : mt_cd 177 250 = some (.aload_n 0) := mt_cd_of (q := (250, .aload_n 0, 1)) mq_177 ci_177 (List.mem_append_right _ (List.mem_append_left _ (show _ ∈ my_177_1 from List.mem_of_getElem? (i := 52) rfl)))
theorem cd_177_251 : mt_cd 177 251 = some (.aload_n 0) := mt_cd_of (q := (251, .aload_n 0, 1)) mq_177 ci_177 (List.mem_append_right _ (List.mem_append_left _ (show _ ∈ my_177_1 from List.mem_of_getElem? (i := 53) rfl)))
theorem cd_177_252 : mt_cd 177 252 = some (.getfield 77) := mt_cd_of (q := (252, .getfield 77, 3)) mq_177 ci_177 (List.mem_append_right _ (List.mem_append_left _ (show _ ∈ my_177_1 from List.mem_of_getElem? (i := 54) rfl)))
theorem cd_177_255 : mt_cd 177 255 = some (.iload_n 1) := mt_cd_of (q := (255, .iload_n 1, 1)) mq_177 ci_177 (List.mem_append_right _ (List.mem_append_left _ (show _ ∈ my_177_1 from List.mem_of_getElem? (i := 55) rfl)))
theorem cd_177_256 : mt_cd 177 256 = some (.iaload) := mt_cd_of (q := (256, .iaload, 1)) mq_177 ci_177 (List.mem_append_right _ (List.mem_append_left _ (show _ ∈ my_177_1 from List.mem_of_getElem? (i := 56) rfl)))
theorem cd_177_257 : mt_cd 177 257 = some (.aload_n 0) := mt_cd_of (q := (257, .aload_n 0, 1)) mq_177 ci_177 (List.mem_append_right _ (List.mem_append_left _ (show _ ∈ my_177_1 from List.mem_of_getElem? (i := 57) rfl)))
theorem cd_177_258 : mt_cd 177 258 = some (.aload_n 0) := mt_cd_of (q := (258, .aload_n 0, 1)) mq_177 ci_177 (List.mem_append_right _ (List.mem_append_left _ (show _ ∈ my_177_1 from List.mem_of_getElem? (i := 58) rfl)))
theorem cd_177_259 : mt_cd 177 259 = some (.getfield 80) := mt_cd_of (q := (259, .getfield 80, 3)) mq_177 ci_177 (List.mem_append_right _ (List.mem_append_left _ (show _ ∈ my_177_1 from List.mem_of_getElem? (i := 59) rfl)))
theorem cd_177_262 : mt_cd 177 262 = some (.iload_n 1) := mt_cd_of (q := (262, .iload_n 1, 1)) mq_177 ci_177 (List.mem_append_right _ (List.mem_append_right _ ((show _ ∈ my_177_2 from List.mem_of_getElem? (i := 0) rfl))))
theorem cd_177_263 : mt_cd 177 263 = some (.iaload) := mt_cd_of (q := (263, .iaload, 1)) mq_177 ci_177 (List.mem_append_right _ (List.mem_append_right _ ((show _ ∈ my_177_2 from List.mem_of_getElem? (i := 1) rfl))))
theorem cd_177_264 : mt_cd 177 264 = some (.invokevirtual 451) := mt_cd_of (q := (264, .invokevirtual 451, 3)) mq_177 ci_177 (List.mem_append_right _ (List.mem_append_right _ ((show _ ∈ my_177_2 from List.mem_of_getElem? (i := 2) rfl))))
theorem cd_177_267 : mt_cd 177 267 = some (.aload_n 0) := mt_cd_of (q := (267, .aload_n 0, 1)) mq_177 ci_177 (List.mem_append_right _ (List.mem_append_right _ ((show _ ∈ my_177_2 from List.mem_of_getElem? (i := 3) rfl))))
theorem cd_177_268 : mt_cd 177 268 = some (.aload_n 0) := mt_cd_of (q := (268, .aload_n 0, 1)) mq_177 ci_177 (List.mem_append_right _ (List.mem_append_right _ ((show _ ∈ my_177_2 from List.mem_of_getElem? (i := 4) rfl))))
theorem cd_177_269 : mt_cd 177 269 = some (.getfield 83) := mt_cd_of (q := (269, .getfield 83, 3)) mq_177 ci_177 (List.mem_append_right _ (List.mem_append_right _ ((show _ ∈ my_177_2 from List.mem_of_getElem? (i := 5) rfl))))
theorem cd_177_272 : mt_cd 177 272 = some (.iload_n 1) := mt_cd_of (q := (272, .iload_n 1, 1)) mq_177 ci_177 (List.mem_append_right _ (List.mem_append_right _ ((show _ ∈ my_177_2 from List.mem_of_getElem? (i := 6) rfl))))
theorem cd_177_273 : mt_cd 177 273 = some (.iaload) := mt_cd_of (q := (273, .iaload, 1)) mq_177 ci_177 (List.mem_append_right _ (List.mem_append_right _ ((show _ ∈ my_177_2 from List.mem_of_getElem? (i := 7) rfl))))
theorem cd_177_274 : mt_cd 177 274 = some (.invokevirtual 451) := mt_cd_of (q := (274, .invokevirtual 451, 3)) mq_177 ci_177 (List.mem_append_right _ (List.mem_append_right _ ((show _ ∈ my_177_2 from List.mem_of_getElem? (i := 8) rfl))))
theorem cd_177_277 : mt_cd 177 277 = some (.invokevirtual 480) := mt_cd_of (q := (277, .invokevirtual 480, 3)) mq_177 ci_177 (List.mem_append_right _ (List.mem_append_right _ ((show _ ∈ my_177_2 from List.mem_of_getElem? (i := 9) rfl))))
theorem cd_177_280 : mt_cd 177 280 = some (.lreturn) := mt_cd_of (q := (280, .lreturn, 1)) mq_177 ci_177 (List.mem_append_right _ (List.mem_append_right _ ((show _ ∈ my_177_2 from List.mem_of_getElem? (i := 10) rfl))))
theorem b_177_0 {d : Nat} {Q : (Option Value ⊕ Nat) → mi_H → Prop} (n sl : Nat) (f : Nat → mi_C) {l1 : Nat} {l2 : Int32} {fs3 : List Value} {x6 : Int32} (h4 : f l1 = .inr (12, fs3)) (h5 : l1 < n) (h7 : fs3[46]? = some (.int x6)) (h8 : x6 = (0 : Int32) → mi_W d 177 9 [some (.ref l1), some (.int l2)] [] (n, sl, f) Q) (h9 : ¬ (x6 = (0 : Int32)) → mi_W d 177 7 [some (.ref l1), some (.int l2)] [] (n, sl, f) Q) : mi_W d 177 0 [some (.ref l1), some (.int l2)] [] (n, sl, f) Q := by
  refine w_aload_n cd_177_0 rfl ?_
  refine w_getfield cd_177_1 (show mt_f 12 441 = some (12, 46) by decide +kernel) h4 h5 h7 ?_
  exact w_ifeq cd_177_4 (by decide) h8 h9
theorem b_177_7 {d : Nat} {Q : (Option Value ⊕ Nat) → mi_H → Prop} (n sl : Nat) (f : Nat → mi_C) {l1 : Nat} {l2 : Int32} (h3 : Q (.inl (some (.long 0))) (n, sl, f)) : mi_W d 177 7 [some (.ref l1), some (.int l2)] [] (n, sl, f) Q := by
  refine w_lconst (lv := 0) cd_177_7 (by decide) ?_
  exact w_lreturn cd_177_8 (by decide +kernel) h3
theorem b_177_9 {d : Nat} {Q : (Option Value ⊕ Nat) → mi_H → Prop} (n sl : Nat) (f : Nat → mi_C) {l1 : Nat} {l2 : Int32} {fs3 : List Value} {x6 : Nat} (m8 i8 : Nat) (g8 : Nat → Int32) {t12 : Nat} (h4 : f l1 = .inr (12, fs3)) (h5 : l1 < n) (h7 : fs3[12]? = some (.ref x6)) (h9 : f x6 = .inl (0, m8, .inl g8)) (h10 : x6 < n ∨ x6 = mi_SC) (h11 : mi_ix l2 m8 i8) (h13 : mi_ts 15 235 10 21 #[61, 68, 92, 235, 235, 235, 235, 108, 144, 180, 189, 198] ((g8 i8) : Int32).toInt = some t12) (h14 : mi_W d 177 t12 [some (.ref l1), some (.int l2)] [] (n, sl, f) Q) : mi_W d 177 9 [some (.ref l1), some (.int l2)] [] (n, sl, f) Q := by
  refine w_aload_n cd_177_9 rfl ?_
  refine w_getfield cd_177_10 (show mt_f 12 77 = some (12, 12) by decide +kernel) h4 h5 h7 ?_
  refine w_iload_n cd_177_13 rfl ?_
  refine w_iaload cd_177_14 h9 h10 h11 ?_
  exact w_tableswitch cd_177_15 h13 h14
theorem b_177_76 {d : Nat} {Q : (Option Value ⊕ Nat) → mi_H → Prop} (n sl : Nat) (f : Nat → mi_C) {l1 : Nat} {l2 : Int32} {fs3 : List Value} {x6 : Nat} (m8 i8 : Nat) (g8 : Nat → Int64) (h4 : f l1 = .inr (12, fs3)) (h5 : l1 < n) (h7 : fs3[20]? = some (.ref x6)) (h9 : f x6 = .inl (3, m8, .inr (.inl g8))) (h10 : x6 < n) (h11 : mi_ix l2 m8 i8) (h12 : Q (.inl (some (.long (g8 i8)))) (n, sl, f)) : mi_W d 177 76 [some (.ref l1), some (.int l2)] [] (n, sl, f) Q := by
  refine w_aload_n cd_177_76 rfl ?_
  refine w_getfield cd_177_77 (show mt_f 12 101 = some (12, 20) by decide +kernel) h4 h5 h7 ?_
  refine w_iload_n cd_177_80 rfl ?_
  refine w_laload cd_177_81 h9 h10 h11 ?_
  exact w_lreturn cd_177_82 (by decide +kernel) h12
theorem b_177_83 {d : Nat} {Q : (Option Value ⊕ Nat) → mi_H → Prop} (n sl : Nat) (f : Nat → mi_C) {l1 : Nat} {l2 : Int32} {fs3 : List Value} {x6 : Nat} {fs8 : List Value} {x11 : Nat} {fs13 : List Value} {x16 : Nat} (m18 i18 : Nat) (g18 : Nat → Int32) {fs22 : List Value} {x25 : Nat} (m27 i27 : Nat) (g27 : Nat → Int32) (m31 i31 : Nat) (g31 : Nat → Int64) (h4 : f l1 = .inr (12, fs3)) (h5 : l1 < n) (h7 : fs3[43]? = some (.ref x6)) (h9 : f x6 = .inr (13, fs8)) (h10 : x6 < n) (h12 : fs8[2]? = some (.ref x11)) (h14 : f l1 = .inr (12, fs13)) (h15 : l1 < n) (h17 : fs13[13]? = some (.ref x16)) (h19 : f x16 = .inl (0, m18, .inl g18)) (h20 : x16 < n ∨ x16 = mi_SC) (h21 : mi_ix l2 m18 i18) (h23 : f l1 = .inr (12, fs22)) (h24 : l1 < n) (h26 : fs22[15]? = some (.ref x25)) (h28 : f x25 = .inl (0, m27, .inl g27)) (h29 : x25 < n ∨ x25 = mi_SC) (h30 : mi_ix l2 m27 i27) (h32 : f x11 = .inl (3, m31, .inr (.inl g31))) (h33 : x11 < n) (h34 : mi_ix ((4 * (g18 i18)) + (g27 i27)) m31 i31) (h35 : Q (.inl (some (.long (g31 i31)))) (n, sl, f)) : mi_W d 177 83 [some (.ref l1), some (.int l2)] [] (n, sl, f) Q := by
  refine w_aload_n cd_177_83 rfl ?_
  refine w_getfield cd_177_84 (show mt_f 12 445 = some (12, 43) by decide +kernel) h4 h5 h7 ?_
  refine w_getfield cd_177_87 (show mt_f 12 448 = some (13, 2) by decide +kernel) h9 h10 h12 ?_
  refine w_iconst (v := 4) cd_177_90 (by decide) ?_
  refine w_aload_n cd_177_91 rfl ?_
  refine w_getfield cd_177_92 (show mt_f 12 80 = some (12, 13) by decide +kernel) h14 h15 h17 ?_
  refine w_iload_n cd_177_95 rfl ?_
  refine w_iaload cd_177_96 h19 h20 h21 ?_
  refine w_imul cd_177_97 ?_
  refine w_aload_n cd_177_98 rfl ?_
  refine w_getfield cd_177_99 (show mt_f 12 86 = some (12, 15) by decide +kernel) h23 h24 h26 ?_
  refine w_iload_n cd_177_102 rfl ?_
  refine w_iaload cd_177_103 h28 h29 h30 ?_
  refine w_iadd cd_177_104 ?_
  refine w_laload cd_177_105 h32 h33 h34 ?_
  exact w_lreturn cd_177_106 (by decide +kernel) h35
theorem b_177_107 {d : Nat} {Q : (Option Value ⊕ Nat) → mi_H → Prop} (n sl : Nat) (f : Nat → mi_C) {l1 : Nat} {l2 : Int32} {fs3 : List Value} {x6 : Nat} (m8 i8 : Nat) (g8 : Nat → Int32) {fs12 : List Value} (h4 : f l1 = .inr (12, fs3)) (h5 : l1 < n) (h7 : fs3[13]? = some (.ref x6)) (h9 : f x6 = .inl (0, m8, .inl g8)) (h10 : x6 < n ∨ x6 = mi_SC) (h11 : mi_ix l2 m8 i8) (h13 : f l1 = .inr (12, fs12)) (h14 : l1 < n) (h15 : mi_W d 177 0 (mi_en 2 [.ref l1, .int (g8 i8)]) [] (n, sl, f) (mi_Kc d 177 115 [some (.ref l1), some (.int l2)] [.ref l1] Q)) : mi_W (d + 1) 177 107 [some (.ref l1), some (.int l2)] [] (n, sl, f) Q := by
  refine w_aload_n cd_177_107 rfl ?_
  refine w_aload_n cd_177_108 rfl ?_
  refine w_aload_n cd_177_109 rfl ?_
  refine w_getfield cd_177_110 (show mt_f 12 80 = some (12, 13) by decide +kernel) h4 h5 h7 ?_
  refine w_iload_n cd_177_113 rfl ?_
  refine w_iaload cd_177_114 h9 h10 h11 ?_
  exact w_invokevirtual cd_177_115 (show mt_m 12 451 = some (177, 0) by decide +kernel) (rest := [.ref l1]) rfl (as := [.ref l1, .int (g8 i8)]) rfl h13 (Or.inl h14) ⟨Nat.le_of_ble_eq_true rfl, Nat.le_of_ble_eq_true rfl, Nat.le_of_ble_eq_true rfl⟩ h15
theorem b_177_118 {d : Nat} {Q : (Option Value ⊕ Nat) → mi_H → Prop} (n sl : Nat) (f : Nat → mi_C) {l1 : Nat} {l2 : Int32} {s3 : Int64} {s4 : Nat} {fs5 : List Value} (h6 : f s4 = .inr (12, fs5)) (h7 : s4 < n) (h8 : mi_W d 178 0 (mi_en 3 [.ref s4, .long (-s3)]) [] (n, sl, f) (mi_Kc d 177 119 [some (.ref l1), some (.int l2)] [] Q)) : mi_W (d + 1) 177 118 [some (.ref l1), some (.int l2)] [.long s3, .ref s4] (n, sl, f) Q := by
  refine w_lneg cd_177_118 ?_
  exact w_invokevirtual cd_177_119 (show mt_m 12 455 = some (178, 0) by decide +kernel) (rest := []) rfl (as := [.ref s4, .long (-s3)]) rfl h6 (Or.inl h7) ⟨Nat.le_of_ble_eq_true rfl, Nat.le_of_ble_eq_true rfl, Nat.le_of_ble_eq_true rfl⟩ h8
theorem b_177_122 {d : Nat} {Q : (Option Value ⊕ Nat) → mi_H → Prop} (n sl : Nat) (f : Nat → mi_C) {l1 : Nat} {l2 : Int32} {s3 : Int64} (h4 : Q (.inl (some (.long s3))) (n, sl, f)) : mi_W d 177 122 [some (.ref l1), some (.int l2)] [.long s3] (n, sl, f) Q := by
  exact w_lreturn cd_177_122 (by decide +kernel) h4
theorem b_177_123 {d : Nat} {Q : (Option Value ⊕ Nat) → mi_H → Prop} (n sl : Nat) (f : Nat → mi_C) {l1 : Nat} {l2 : Int32} {fs3 : List Value} {x6 : Nat} {fs8 : List Value} {x11 : Nat} {fs13 : List Value} {x16 : Nat} (m18 i18 : Nat) (g18 : Nat → Int32) (m22 i22 : Nat) (g22 : Nat → Int32) (h4 : f l1 = .inr (12, fs3)) (h5 : l1 < n) (h7 : fs3[43]? = some (.ref x6)) (h9 : f x6 = .inr (13, fs8)) (h10 : x6 < n) (h12 : fs8[5]? = some (.ref x11)) (h14 : f l1 = .inr (12, fs13)) (h15 : l1 < n) (h17 : fs13[13]? = some (.ref x16)) (h19 : f x16 = .inl (0, m18, .inl g18)) (h20 : x16 < n ∨ x16 = mi_SC) (h21 : mi_ix l2 m18 i18) (h23 : f x11 = .inl (2, m22, .inl g22)) (h24 : x11 < n) (h25 : mi_ix (g18 i18) m22 i22) (h26 : (g22 i22) = (0 : Int32) → mi_W d 177 157 [some (.ref l1), some (.int l2)] [] (n, sl, f) Q) (h27 : ¬ ((g22 i22) = (0 : Int32)) → mi_W d 177 140 [some (.ref l1), some (.int l2)] [] (n, sl, f) Q) : mi_W d 177 123 [some (.ref l1), some (.int l2)] [] (n, sl, f) Q := by
  refine w_aload_n cd_177_123 rfl ?_
  refine w_getfield cd_177_124 (show mt_f 12 445 = some (12, 43) by decide +kernel) h4 h5 h7 ?_
  refine w_getfield cd_177_127 (show mt_f 12 459 = some (13, 5) by decide +kernel) h9 h10 h12 ?_
  refine w_aload_n cd_177_130 rfl ?_
  refine w_getfield cd_177_131 (show mt_f 12 80 = some (12, 13) by decide +kernel) h14 h15 h17 ?_
  refine w_iload_n cd_177_134 rfl ?_
  refine w_iaload cd_177_135 h19 h20 h21 ?_
  refine w_baload2 cd_177_136 h23 h24 h25 ?_
  exact w_ifeq cd_177_137 (by decide) h26 h27
theorem b_177_140 {d : Nat} {Q : (Option Value ⊕ Nat) → mi_H → Prop} (n sl : Nat) (f : Nat → mi_C) {l1 : Nat} {l2 : Int32} {fs3 : List Value} {x6 : Nat} {fs8 : List Value} {x11 : Nat} {fs13 : List Value} {x16 : Nat} (m18 i18 : Nat) (g18 : Nat → Int32) (m22 i22 : Nat) (g22 : Nat → Int64) (h4 : f l1 = .inr (12, fs3)) (h5 : l1 < n) (h7 : fs3[43]? = some (.ref x6)) (h9 : f x6 = .inr (13, fs8)) (h10 : x6 < n) (h12 : fs8[3]? = some (.ref x11)) (h14 : f l1 = .inr (12, fs13)) (h15 : l1 < n) (h17 : fs13[13]? = some (.ref x16)) (h19 : f x16 = .inl (0, m18, .inl g18)) (h20 : x16 < n ∨ x16 = mi_SC) (h21 : mi_ix l2 m18 i18) (h23 : f x11 = .inl (3, m22, .inr (.inl g22))) (h24 : x11 < n) (h25 : mi_ix (g18 i18) m22 i22) (h26 : mi_W d 177 158 [some (.ref l1), some (.int l2)] [.long (g22 i22)] (n, sl, f) Q) : mi_W d 177 140 [some (.ref l1), some (.int l2)] [] (n, sl, f) Q := by
  refine w_aload_n cd_177_140 rfl ?_
  refine w_getfield cd_177_141 (show mt_f 12 445 = some (12, 43) by decide +kernel) h4 h5 h7 ?_
  refine w_getfield cd_177_144 (show mt_f 12 463 = some (13, 3) by decide +kernel) h9 h10 h12 ?_
  refine w_aload_n cd_177_147 rfl ?_
  refine w_getfield cd_177_148 (show mt_f 12 80 = some (12, 13) by decide +kernel) h14 h15 h17 ?_
  refine w_iload_n cd_177_151 rfl ?_
  refine w_iaload cd_177_152 h19 h20 h21 ?_
  refine w_laload cd_177_153 h23 h24 h25 ?_
  exact w_goto cd_177_154 (by decide) h26
theorem b_177_157 {d : Nat} {Q : (Option Value ⊕ Nat) → mi_H → Prop} (n sl : Nat) (f : Nat → mi_C) {l1 : Nat} {l2 : Int32} (h3 : mi_W d 177 158 [some (.ref l1), some (.int l2)] [.long 0] (n, sl, f) Q) : mi_W d 177 157 [some (.ref l1), some (.int l2)] [] (n, sl, f) Q := by
  refine w_lconst (lv := 0) cd_177_157 (by decide) ?_
  exact h3
theorem b_177_158 {d : Nat} {Q : (Option Value ⊕ Nat) → mi_H → Prop} (n sl : Nat) (f : Nat → mi_C) {l1 : Nat} {l2 : Int32} {s3 : Int64} (h4 : Q (.inl (some (.long s3))) (n, sl, f)) : mi_W d 177 158 [some (.ref l1), some (.int l2)] [.long s3] (n, sl, f) Q := by
  exact w_lreturn cd_177_158 (by decide +kernel) h4
theorem b_177_159 {d : Nat} {Q : (Option Value ⊕ Nat) → mi_H → Prop} (n sl : Nat) (f : Nat → mi_C) {l1 : Nat} {l2 : Int32} {fs3 : List Value} {x6 : Nat} {fs8 : List Value} {x11 : Nat} {fs13 : List Value} {x16 : Nat} (m18 i18 : Nat) (g18 : Nat → Int32) (m22 i22 : Nat) (g22 : Nat → Int32) (h4 : f l1 = .inr (12, fs3)) (h5 : l1 < n) (h7 : fs3[43]? = some (.ref x6)) (h9 : f x6 = .inr (13, fs8)) (h10 : x6 < n) (h12 : fs8[6]? = some (.ref x11)) (h14 : f l1 = .inr (12, fs13)) (h15 : l1 < n) (h17 : fs13[13]? = some (.ref x16)) (h19 : f x16 = .inl (0, m18, .inl g18)) (h20 : x16 < n ∨ x16 = mi_SC) (h21 : mi_ix l2 m18 i18) (h23 : f x11 = .inl (2, m22, .inl g22)) (h24 : x11 < n) (h25 : mi_ix (g18 i18) m22 i22) (h26 : (g22 i22) = (0 : Int32) → mi_W d 177 193 [some (.ref l1), some (.int l2)] [] (n, sl, f) Q) (h27 : ¬ ((g22 i22) = (0 : Int32)) → mi_W d 177 176 [some (.ref l1), some (.int l2)] [] (n, sl, f) Q) : mi_W d 177 159 [some (.ref l1), some (.int l2)] [] (n, sl, f) Q := by
  refine w_aload_n cd_177_159 rfl ?_
  refine w_getfield cd_177_160 (show mt_f 12 445 = some (12, 43) by decide +kernel) h4 h5 h7 ?_
  refine w_getfield cd_177_163 (show mt_f 12 465 = some (13, 6) by decide +kernel) h9 h10 h12 ?_
  refine w_aload_n cd_177_166 rfl ?_
  refine w_getfield cd_177_167 (show mt_f 12 80 = some (12, 13) by decide +kernel) h14 h15 h17 ?_
  refine w_iload_n cd_177_170 rfl ?_
  refine w_iaload cd_177_171 h19 h20 h21 ?_
  refine w_baload2 cd_177_172 h23 h24 h25 ?_
  exact w_ifeq cd_177_173 (by decide) h26 h27
theorem b_177_176 {d : Nat} {Q : (Option Value ⊕ Nat) → mi_H → Prop} (n sl : Nat) (f : Nat → mi_C) {l1 : Nat} {l2 : Int32} {fs3 : List Value} {x6 : Nat} {fs8 : List Value} {x11 : Nat} {fs13 : List Value} {x16 : Nat} (m18 i18 : Nat) (g18 : Nat → Int32) (m22 i22 : Nat) (g22 : Nat → Int64) (h4 : f l1 = .inr (12, fs3)) (h5 : l1 < n) (h7 : fs3[43]? = some (.ref x6)) (h9 : f x6 = .inr (13, fs8)) (h10 : x6 < n) (h12 : fs8[4]? = some (.ref x11)) (h14 : f l1 = .inr (12, fs13)) (h15 : l1 < n) (h17 : fs13[13]? = some (.ref x16)) (h19 : f x16 = .inl (0, m18, .inl g18)) (h20 : x16 < n ∨ x16 = mi_SC) (h21 : mi_ix l2 m18 i18) (h23 : f x11 = .inl (3, m22, .inr (.inl g22))) (h24 : x11 < n) (h25 : mi_ix (g18 i18) m22 i22) (h26 : mi_W d 177 194 [some (.ref l1), some (.int l2)] [.long (g22 i22)] (n, sl, f) Q) : mi_W d 177 176 [some (.ref l1), some (.int l2)] [] (n, sl, f) Q := by
  refine w_aload_n cd_177_176 rfl ?_
  refine w_getfield cd_177_177 (show mt_f 12 445 = some (12, 43) by decide +kernel) h4 h5 h7 ?_
  refine w_getfield cd_177_180 (show mt_f 12 468 = some (13, 4) by decide +kernel) h9 h10 h12 ?_
  refine w_aload_n cd_177_183 rfl ?_
  refine w_getfield cd_177_184 (show mt_f 12 80 = some (12, 13) by decide +kernel) h14 h15 h17 ?_
  refine w_iload_n cd_177_187 rfl ?_
  refine w_iaload cd_177_188 h19 h20 h21 ?_
  refine w_laload cd_177_189 h23 h24 h25 ?_
  exact w_goto cd_177_190 (by decide) h26
theorem b_177_193 {d : Nat} {Q : (Option Value ⊕ Nat) → mi_H → Prop} (n sl : Nat) (f : Nat → mi_C) {l1 : Nat} {l2 : Int32} (h3 : mi_W d 177 194 [some (.ref l1), some (.int l2)] [.long 0] (n, sl, f) Q) : mi_W d 177 193 [some (.ref l1), some (.int l2)] [] (n, sl, f) Q := by
  refine w_lconst (lv := 0) cd_177_193 (by decide) ?_
  exact h3
theorem b_177_194 {d : Nat} {Q : (Option Value ⊕ Nat) → mi_H → Prop} (n sl : Nat) (f : Nat → mi_C) {l1 : Nat} {l2 : Int32} {s3 : Int64} (h4 : Q (.inl (some (.long s3))) (n, sl, f)) : mi_W d 177 194 [some (.ref l1), some (.int l2)] [.long s3] (n, sl, f) Q := by
  exact w_lreturn cd_177_194 (by decide +kernel) h4
theorem b_177_195 {d : Nat} {Q : (Option Value ⊕ Nat) → mi_H → Prop} (n sl : Nat) (f : Nat → mi_C) {l1 : Nat} {l2 : Int32} {fs3 : List Value} {x6 : Int64} {fs8 : List Value} (h4 : f l1 = .inr (12, fs3)) (h5 : l1 < n) (h7 : fs3[44]? = some (.long x6)) (h9 : f l1 = .inr (12, fs8)) (h10 : l1 < n) (h11 : mi_W d 178 0 (mi_en 3 [.ref l1, .long x6]) [] (n, sl, f) (mi_Kc d 177 200 [some (.ref l1), some (.int l2)] [] Q)) : mi_W (d + 1) 177 195 [some (.ref l1), some (.int l2)] [] (n, sl, f) Q := by
  refine w_aload_n cd_177_195 rfl ?_
  refine w_aload_n cd_177_196 rfl ?_
  refine w_getfield cd_177_197 (show mt_f 12 471 = some (12, 44) by decide +kernel) h4 h5 h7 ?_
  exact w_invokevirtual cd_177_200 (show mt_m 12 455 = some (178, 0) by decide +kernel) (rest := []) rfl (as := [.ref l1, .long x6]) rfl h9 (Or.inl h10) ⟨Nat.le_of_ble_eq_true rfl, Nat.le_of_ble_eq_true rfl, Nat.le_of_ble_eq_true rfl⟩ h11
theorem b_177_203 {d : Nat} {Q : (Option Value ⊕ Nat) → mi_H → Prop} (n sl : Nat) (f : Nat → mi_C) {l1 : Nat} {l2 : Int32} {s3 : Int64} (h4 : Q (.inl (some (.long s3))) (n, sl, f)) : mi_W d 177 203 [some (.ref l1), some (.int l2)] [.long s3] (n, sl, f) Q := by
  exact w_lreturn cd_177_203 (by decide +kernel) h4
theorem b_177_204 {d : Nat} {Q : (Option Value ⊕ Nat) → mi_H → Prop} (n sl : Nat) (f : Nat → mi_C) {l1 : Nat} {l2 : Int32} {fs3 : List Value} {x6 : Int64} {fs8 : List Value} (h4 : f l1 = .inr (12, fs3)) (h5 : l1 < n) (h7 : fs3[45]? = some (.long x6)) (h9 : f l1 = .inr (12, fs8)) (h10 : l1 < n) (h11 : mi_W d 178 0 (mi_en 3 [.ref l1, .long x6]) [] (n, sl, f) (mi_Kc d 177 209 [some (.ref l1), some (.int l2)] [] Q)) : mi_W (d + 1) 177 204 [some (.ref l1), some (.int l2)] [] (n, sl, f) Q := by
  refine w_aload_n cd_177_204 rfl ?_
  refine w_aload_n cd_177_205 rfl ?_
  refine w_getfield cd_177_206 (show mt_f 12 474 = some (12, 45) by decide +kernel) h4 h5 h7 ?_
  exact w_invokevirtual cd_177_209 (show mt_m 12 455 = some (178, 0) by decide +kernel) (rest := []) rfl (as := [.ref l1, .long x6]) rfl h9 (Or.inl h10) ⟨Nat.le_of_ble_eq_true rfl, Nat.le_of_ble_eq_true rfl, Nat.le_of_ble_eq_true rfl⟩ h11
theorem b_177_212 {d : Nat} {Q : (Option Value ⊕ Nat) → mi_H → Prop} (n sl : Nat) (f : Nat → mi_C) {l1 : Nat} {l2 : Int32} {s3 : Int64} (h4 : Q (.inl (some (.long s3))) (n, sl, f)) : mi_W d 177 212 [some (.ref l1), some (.int l2)] [.long s3] (n, sl, f) Q := by
  exact w_lreturn cd_177_212 (by decide +kernel) h4
theorem b_177_213 {d : Nat} {Q : (Option Value ⊕ Nat) → mi_H → Prop} (n sl : Nat) (f : Nat → mi_C) {l1 : Nat} {l2 : Int32} {fs3 : List Value} {x6 : Nat} (m8 i8 : Nat) (g8 : Nat → Int32) {fs12 : List Value} (h4 : f l1 = .inr (12, fs3)) (h5 : l1 < n) (h7 : fs3[16]? = some (.ref x6)) (h9 : f x6 = .inl (0, m8, .inl g8)) (h10 : x6 < n ∨ x6 = mi_SC) (h11 : mi_ix l2 m8 i8) (h13 : f l1 = .inr (12, fs12)) (h14 : l1 < n) (h15 : mi_W d 179 0 (mi_en 6 [.ref l1, .int (g8 i8)]) [] (n, sl, f) (mi_Kc d 177 220 [some (.ref l1), some (.int l2)] [] Q)) : mi_W (d + 1) 177 213 [some (.ref l1), some (.int l2)] [] (n, sl, f) Q := by
  refine w_aload_n cd_177_213 rfl ?_
  refine w_aload_n cd_177_214 rfl ?_
  refine w_getfield cd_177_215 (show mt_f 12 89 = some (12, 16) by decide +kernel) h4 h5 h7 ?_
  refine w_iload_n cd_177_218 rfl ?_
  refine w_iaload cd_177_219 h9 h10 h11 ?_
  exact w_invokevirtual cd_177_220 (show mt_m 12 477 = some (179, 0) by decide +kernel) (rest := []) rfl (as := [.ref l1, .int (g8 i8)]) rfl h13 (Or.inl h14) ⟨Nat.le_of_ble_eq_true rfl, Nat.le_of_ble_eq_true rfl, Nat.le_of_ble_eq_true rfl⟩ h15
theorem b_177_223 {d : Nat} {Q : (Option Value ⊕ Nat) → mi_H → Prop} (n sl : Nat) (f : Nat → mi_C) {l1 : Nat} {l2 : Int32} {s3 : Int32} (h4 : s3 = (0 : Int32) → mi_W d 177 239 [some (.ref l1), some (.int l2)] [] (n, sl, f) Q) (h5 : ¬ (s3 = (0 : Int32)) → mi_W d 177 226 [some (.ref l1), some (.int l2)] [] (n, sl, f) Q) : mi_W d 177 223 [some (.ref l1), some (.int l2)] [.int s3] (n, sl, f) Q := by
  exact w_ifeq cd_177_223 (by decide) h4 h5
theorem b_177_226 {d : Nat} {Q : (Option Value ⊕ Nat) → mi_H → Prop} (n sl : Nat) (f : Nat → mi_C) {l1 : Nat} {l2 : Int32} {fs3 : List Value} {x6 : Nat} (m8 i8 : Nat) (g8 : Nat → Int32) {fs12 : List Value} (h4 : f l1 = .inr (12, fs3)) (h5 : l1 < n) (h7 : fs3[13]? = some (.ref x6)) (h9 : f x6 = .inl (0, m8, .inl g8)) (h10 : x6 < n ∨ x6 = mi_SC) (h11 : mi_ix l2 m8 i8) (h13 : f l1 = .inr (12, fs12)) (h14 : l1 < n) (h15 : mi_W d 177 0 (mi_en 2 [.ref l1, .int (g8 i8)]) [] (n, sl, f) (mi_Kc d 177 233 [some (.ref l1), some (.int l2)] [] Q)) : mi_W (d + 1) 177 226 [some (.ref l1), some (.int l2)] [] (n, sl, f) Q := by
  refine w_aload_n cd_177_226 rfl ?_
  refine w_aload_n cd_177_227 rfl ?_
  refine w_getfield cd_177_228 (show mt_f 12 80 = some (12, 13) by decide +kernel) h4 h5 h7 ?_
  refine w_iload_n cd_177_231 rfl ?_
  refine w_iaload cd_177_232 h9 h10 h11 ?_
  exact w_invokevirtual cd_177_233 (show mt_m 12 451 = some (177, 0) by decide +kernel) (rest := []) rfl (as := [.ref l1, .int (g8 i8)]) rfl h13 (Or.inl h14) ⟨Nat.le_of_ble_eq_true rfl, Nat.le_of_ble_eq_true rfl, Nat.le_of_ble_eq_true rfl⟩ h15
theorem b_177_236 {d : Nat} {Q : (Option Value ⊕ Nat) → mi_H → Prop} (n sl : Nat) (f : Nat → mi_C) {l1 : Nat} {l2 : Int32} {s3 : Int64} (h4 : mi_W d 177 249 [some (.ref l1), some (.int l2)] [.long s3] (n, sl, f) Q) : mi_W d 177 236 [some (.ref l1), some (.int l2)] [.long s3] (n, sl, f) Q := by
  exact w_goto cd_177_236 (by decide) h4
theorem b_177_239 {d : Nat} {Q : (Option Value ⊕ Nat) → mi_H → Prop} (n sl : Nat) (f : Nat → mi_C) {l1 : Nat} {l2 : Int32} {fs3 : List Value} {x6 : Nat} (m8 i8 : Nat) (g8 : Nat → Int32) {fs12 : List Value} (h4 : f l1 = .inr (12, fs3)) (h5 : l1 < n) (h7 : fs3[14]? = some (.ref x6)) (h9 : f x6 = .inl (0, m8, .inl g8)) (h10 : x6 < n ∨ x6 = mi_SC) (h11 : mi_ix l2 m8 i8) (h13 : f l1 = .inr (12, fs12)) (h14 : l1 < n) (h15 : mi_W d 177 0 (mi_en 2 [.ref l1, .int (g8 i8)]) [] (n, sl, f) (mi_Kc d 177 246 [some (.ref l1), some (.int l2)] [] Q)) : mi_W (d + 1) 177 239 [some (.ref l1), some (.int l2)] [] (n, sl, f) Q := by
  refine w_aload_n cd_177_239 rfl ?_
  refine w_aload_n cd_177_240 rfl ?_
  refine w_getfield cd_177_241 (show mt_f 12 83 = some (12, 14) by decide +kernel) h4 h5 h7 ?_
  refine w_iload_n cd_177_244 rfl ?_
  refine w_iaload cd_177_245 h9 h10 h11 ?_
  exact w_invokevirtual cd_177_246 (show mt_m 12 451 = some (177, 0) by decide +kernel) (rest := []) rfl (as := [.ref l1, .int (g8 i8)]) rfl h13 (Or.inl h14) ⟨Nat.le_of_ble_eq_true rfl, Nat.le_of_ble_eq_true rfl, Nat.le_of_ble_eq_true rfl⟩ h15
theorem b_177_249 {d : Nat} {Q : (Option Value ⊕ Nat) → mi_H → Prop} (n sl : Nat) (f : Nat → mi_C) {l1 : Nat} {l2 : Int32} {s3 : Int64} (h4 : Q (.inl (some (.long s3))) (n, sl, f)) : mi_W d 177 249 [some (.ref l1), some (.int l2)] [.long s3] (n, sl, f) Q := by
  exact w_lreturn cd_177_249 (by decide +kernel) h4
theorem b_177_250 {d : Nat} {Q : (Option Value ⊕ Nat) → mi_H → Prop} (n sl : Nat) (f : Nat → mi_C) {l1 : Nat} {l2 : Int32} {fs3 : List Value} {x6 : Nat} (m8 i8 : Nat) (g8 : Nat → Int32) {fs12 : List Value} {x15 : Nat} (m17 i17 : Nat) (g17 : Nat → Int32) {fs21 : List Value} (h4 : f l1 = .inr (12, fs3)) (h5 : l1 < n) (h7 : fs3[12]? = some (.ref x6)) (h9 : f x6 = .inl (0, m8, .inl g8)) (h10 : x6 < n ∨ x6 = mi_SC) (h11 : mi_ix l2 m8 i8) (h13 : f l1 = .inr (12, fs12)) (h14 : l1 < n) (h16 : fs12[13]? = some (.ref x15)) (h18 : f x15 = .inl (0, m17, .inl g17)) (h19 : x15 < n ∨ x15 = mi_SC) (h20 : mi_ix l2 m17 i17) (h22 : f l1 = .inr (12, fs21)) (h23 : l1 < n) (h24 : mi_W d 177 0 (mi_en 2 [.ref l1, .int (g17 i17)]) [] (n, sl, f) (mi_Kc d 177 264 [some (.ref l1), some (.int l2)] [.int (g8 i8), .ref l1] Q)) : mi_W (d + 1) 177 250 [some (.ref l1), some (.int l2)] [] (n, sl, f) Q := by
  refine w_aload_n cd_177_250 rfl ?_
  refine w_aload_n cd_177_251 rfl ?_
  refine w_getfield cd_177_252 (show mt_f 12 77 = some (12, 12) by decide +kernel) h4 h5 h7 ?_
  refine w_iload_n cd_177_255 rfl ?_
  refine w_iaload cd_177_256 h9 h10 h11 ?_
  refine w_aload_n cd_177_257 rfl ?_
  refine w_aload_n cd_177_258 rfl ?_
  refine w_getfield cd_177_259 (show mt_f 12 80 = some (12, 13) by decide +kernel) h13 h14 h16 ?_
  refine w_iload_n cd_177_262 rfl ?_
  refine w_iaload cd_177_263 h18 h19 h20 ?_
  exact w_invokevirtual cd_177_264 (show mt_m 12 451 = some (177, 0) by decide +kernel) (rest := [.int (g8 i8), .ref l1]) rfl (as := [.ref l1, .int (g17 i17)]) rfl h22 (Or.inl h23) ⟨Nat.le_of_ble_eq_true rfl, Nat.le_of_ble_eq_true rfl, Nat.le_of_ble_eq_true rfl⟩ h24
theorem b_177_267 {d : Nat} {Q : (Option Value ⊕ Nat) → mi_H → Prop} (n sl : Nat) (f : Nat → mi_C) {l1 : Nat} {l2 : Int32} {s3 : Int64} {s4 : Int32} {s5 : Nat} {fs6 : List Value} {x9 : Nat} (m11 i11 : Nat) (g11 : Nat → Int32) {fs15 : List Value} (h7 : f l1 = .inr (12, fs6)) (h8 : l1 < n) (h10 : fs6[14]? = some (.ref x9)) (h12 : f x9 = .inl (0, m11, .inl g11)) (h13 : x9 < n ∨ x9 = mi_SC) (h14 : mi_ix l2 m11 i11) (h16 : f l1 = .inr (12, fs15)) (h17 : l1 < n) (h18 : mi_W d 177 0 (mi_en 2 [.ref l1, .int (g11 i11)]) [] (n, sl, f) (mi_Kc d 177 274 [some (.ref l1), some (.int l2)] [.long s3, .int s4, .ref s5] Q)) : mi_W (d + 1) 177 267 [some (.ref l1), some (.int l2)] [.long s3, .int s4, .ref s5] (n, sl, f) Q := by
  refine w_aload_n cd_177_267 rfl ?_
  refine w_aload_n cd_177_268 rfl ?_
  refine w_getfield cd_177_269 (show mt_f 12 83 = some (12, 14) by decide +kernel) h7 h8 h10 ?_
  refine w_iload_n cd_177_272 rfl ?_
  refine w_iaload cd_177_273 h12 h13 h14 ?_
  exact w_invokevirtual cd_177_274 (show mt_m 12 451 = some (177, 0) by decide +kernel) (rest := [.long s3, .int s4, .ref s5]) rfl (as := [.ref l1, .int (g11 i11)]) rfl h16 (Or.inl h17) ⟨Nat.le_of_ble_eq_true rfl, Nat.le_of_ble_eq_true rfl, Nat.le_of_ble_eq_true rfl⟩ h18
theorem b_177_277 {d : Nat} {Q : (Option Value ⊕ Nat) → mi_H → Prop} (n sl : Nat) (f : Nat → mi_C) {l1 : Nat} {l2 : Int32} {s3 : Int64} {s4 : Int64} {s5 : Int32} {s6 : Nat} {fs7 : List Value} (h8 : f s6 = .inr (12, fs7)) (h9 : s6 < n) (h10 : mi_W d 180 0 (mi_en 9 [.ref s6, .int s5, .long s4, .long s3]) [] (n, sl, f) (mi_Kc d 177 277 [some (.ref l1), some (.int l2)] [] Q)) : mi_W (d + 1) 177 277 [some (.ref l1), some (.int l2)] [.long s3, .long s4, .int s5, .ref s6] (n, sl, f) Q := by
  exact w_invokevirtual cd_177_277 (show mt_m 12 480 = some (180, 0) by decide +kernel) (rest := []) rfl (as := [.ref s6, .int s5, .long s4, .long s3]) rfl h8 (Or.inl h9) ⟨Nat.le_of_ble_eq_true rfl, Nat.le_of_ble_eq_true rfl, Nat.le_of_ble_eq_true rfl⟩ h10
theorem b_177_280 {d : Nat} {Q : (Option Value ⊕ Nat) → mi_H → Prop} (n sl : Nat) (f : Nat → mi_C) {l1 : Nat} {l2 : Int32} {s3 : Int64} (h4 : Q (.inl (some (.long s3))) (n, sl, f)) : mi_W d 177 280 [some (.ref l1), some (.int l2)] [.long s3] (n, sl, f) Q := by
  exact w_lreturn cd_177_280 (by decide +kernel) h4
/-! MarloweHostModel.fit(J)J -/
set_option maxRecDepth 100000 in
theorem mq_178 : mt_q 178 = my_178 := rfl
set_option maxRecDepth 100000 in
theorem ci_178 : mt_inc 0 my_178.cd = true := by decide +kernel
theorem cd_178_0 : mt_cd 178 0 = some (.lload_n 1) := mt_cd_of (q := (0, .lload_n 1, 1)) mq_178 ci_178 (List.mem_of_getElem? (i := 0) rfl)
theorem cd_178_1 : mt_cd 178 1 = some (.ldc2_w 437) := mt_cd_of (q := (1, .ldc2_w 437, 3)) mq_178 ci_178 (List.mem_of_getElem? (i := 1) rfl)
theorem cd_178_4 : mt_cd 178 4 = some (.lcmp) := mt_cd_of (q := (4, .lcmp, 1)) mq_178 ci_178 (List.mem_of_getElem? (i := 2) rfl)
theorem cd_178_5 : mt_cd 178 5 = some (.ifCond .gt 11) := mt_cd_of (q := (5, .ifCond .gt 11, 3)) mq_178 ci_178 (List.mem_of_getElem? (i := 3) rfl)
theorem cd_178_8 : mt_cd 178 8 = some (.lload_n 1) := mt_cd_of (q := (8, .lload_n 1, 1)) mq_178 ci_178 (List.mem_of_getElem? (i := 4) rfl)
theorem cd_178_9 : mt_cd 178 9 = some (.ldc2_w 439) := mt_cd_of (q := (9, .ldc2_w 439, 3)) mq_178 ci_178 (List.mem_of_getElem? (i := 5) rfl)
theorem cd_178_12 : mt_cd 178 12 = some (.lcmp) := mt_cd_of (q := (12, .lcmp, 1)) mq_178 ci_178 (List.mem_of_getElem? (i := 6) rfl)
theorem cd_178_13 : mt_cd 178 13 = some (.ifCond .ge 8) := mt_cd_of (q := (13, .ifCond .ge 8, 3)) mq_178 ci_178 (List.mem_of_getElem? (i := 7) rfl)
theorem cd_178_16 : mt_cd 178 16 = some (.aload_n 0) := mt_cd_of (q := (16, .aload_n 0, 1)) mq_178 ci_178 (List.mem_of_getElem? (i := 8) rfl)
theorem cd_178_17 : mt_cd 178 17 = some (.iconst 1) := mt_cd_of (q := (17, .iconst 1, 1)) mq_178 ci_178 (List.mem_of_getElem? (i := 9) rfl)
theorem cd_178_18 : mt_cd 178 18 = some (.putfield 441) := mt_cd_of (q := (18, .putfield 441, 3)) mq_178 ci_178 (List.mem_of_getElem? (i := 10) rfl)
theorem cd_178_21 : mt_cd 178 21 = some (.lload_n 1) := mt_cd_of (q := (21, .lload_n 1, 1)) mq_178 ci_178 (List.mem_of_getElem? (i := 11) rfl)
theorem cd_178_22 : mt_cd 178 22 = some (.lreturn) := mt_cd_of (q := (22, .lreturn, 1)) mq_178 ci_178 (List.mem_of_getElem? (i := 12) rfl)
theorem b_178_0 {d : Nat} {Q : (Option Value ⊕ Nat) → mi_H → Prop} (n sl : Nat) (f : Nat → mi_C) {l1 : Nat} {l2 : Int64} (h3 : (0 : Int32) < (lg_cmp l2 4611686018427387904) → mi_W d 178 16 [some (.ref l1), some (.long l2), none] [] (n, sl, f) Q) (h4 : ¬ ((0 : Int32) < (lg_cmp l2 4611686018427387904)) → mi_W d 178 8 [some (.ref l1), some (.long l2), none] [] (n, sl, f) Q) : mi_W d 178 0 [some (.ref l1), some (.long l2), none] [] (n, sl, f) Q := by
  refine w_lload_n cd_178_0 rfl ?_
  refine w_ldc2_w (lv := 4611686018427387904) cd_178_1 (by decide +kernel) ?_
  refine w_lcmp cd_178_4 ?_
  exact w_ifgt cd_178_5 (by decide) h3 h4
theorem b_178_8 {d : Nat} {Q : (Option Value ⊕ Nat) → mi_H → Prop} (n sl : Nat) (f : Nat → mi_C) {l1 : Nat} {l2 : Int64} (h3 : (0 : Int32) ≤ (lg_cmp l2 ((-4611686018427387904))) → mi_W d 178 21 [some (.ref l1), some (.long l2), none] [] (n, sl, f) Q) (h4 : ¬ ((0 : Int32) ≤ (lg_cmp l2 ((-4611686018427387904)))) → mi_W d 178 16 [some (.ref l1), some (.long l2), none] [] (n, sl, f) Q) : mi_W d 178 8 [some (.ref l1), some (.long l2), none] [] (n, sl, f) Q := by
  refine w_lload_n cd_178_8 rfl ?_
  refine w_ldc2_w (lv := (-4611686018427387904)) cd_178_9 (by decide +kernel) ?_
  refine w_lcmp cd_178_12 ?_
  exact w_ifge cd_178_13 (by decide) h3 h4
theorem b_178_16 {d : Nat} {Q : (Option Value ⊕ Nat) → mi_H → Prop} (n sl : Nat) (f : Nat → mi_C) {l1 : Nat} {l2 : Int64} {fs3 : List Value} (h4 : f l1 = .inr (12, fs3)) (h5 : l1 < n) (h6 : 46 < fs3.length) (h7 : mi_fk .boolean (.int 1) = true) (h8 : mi_W d 178 21 [some (.ref l1), some (.long l2), none] [] (n, sl, (va_up f l1 (.inr (12, fs3.set 46 (.int 1))))) Q) : mi_W d 178 16 [some (.ref l1), some (.long l2), none] [] (n, sl, f) Q := by
  refine w_aload_n cd_178_16 rfl ?_
  refine w_iconst (v := 1) cd_178_17 (by decide) ?_
  refine w_putfield (w := .int 1) cd_178_18 (show mt_f 12 441 = some (12, 46) by decide +kernel) h4 h5 ⟨h6, h7, Or.inl (by decide)⟩ ?_
  exact h8
theorem b_178_21 {d : Nat} {Q : (Option Value ⊕ Nat) → mi_H → Prop} (n sl : Nat) (f : Nat → mi_C) {l1 : Nat} {l2 : Int64} (h3 : Q (.inl (some (.long l2))) (n, sl, f)) : mi_W d 178 21 [some (.ref l1), some (.long l2), none] [] (n, sl, f) Q := by
  refine w_lload_n cd_178_21 rfl ?_
  exact w_lreturn cd_178_22 (by decide +kernel) h3
/-! MarloweHostModel.holds(I)Z -/
set_option maxRecDepth 100000 in
theorem mq_179 : mt_q 179 = my_179 := rfl
set_option maxRecDepth 100000 in
theorem ci_179 : mt_inc 0 my_179.cd = true := by decide +kernel
theorem cd_179_0 : mt_cd 179 0 = some (.aload_n 0) := mt_cd_of (q := (0, .aload_n 0, 1)) mq_179 ci_179 (List.mem_append_left _ (show _ ∈ my_179_0 from List.mem_of_getElem? (i := 0) rfl))
theorem cd_179_1 : mt_cd 179 1 = some (.getfield 441) := mt_cd_of (q := (1, .getfield 441, 3)) mq_179 ci_179 (List.mem_append_left _ (show _ ∈ my_179_0 from List.mem_of_getElem? (i := 1) rfl))
theorem cd_179_4 : mt_cd 179 4 = some (.ifCond .eq 5) := mt_cd_of (q := (4, .ifCond .eq 5, 3)) mq_179 ci_179 (List.mem_append_left _ (show _ ∈ my_179_0 from List.mem_of_getElem? (i := 2) rfl))
theorem cd_179_7 : mt_cd 179 7 = some (.iconst 0) := mt_cd_of (q := (7, .iconst 0, 1)) mq_179 ci_179 (List.mem_append_left _ (show _ ∈ my_179_0 from List.mem_of_getElem? (i := 3) rfl))
theorem cd_179_8 : mt_cd 179 8 = some (.ireturn) := mt_cd_of (q := (8, .ireturn, 1)) mq_179 ci_179 (List.mem_append_left _ (show _ ∈ my_179_0 from List.mem_of_getElem? (i := 4) rfl))
theorem cd_179_9 : mt_cd 179 9 = some (.aload_n 0) := mt_cd_of (q := (9, .aload_n 0, 1)) mq_179 ci_179 (List.mem_append_left _ (show _ ∈ my_179_0 from List.mem_of_getElem? (i := 5) rfl))
theorem cd_179_10 : mt_cd 179 10 = some (.getfield 77) := mt_cd_of (q := (10, .getfield 77, 3)) mq_179 ci_179 (List.mem_append_left _ (show _ ∈ my_179_0 from List.mem_of_getElem? (i := 6) rfl))
theorem cd_179_13 : mt_cd 179 13 = some (.iload_n 1) := mt_cd_of (q := (13, .iload_n 1, 1)) mq_179 ci_179 (List.mem_append_left _ (show _ ∈ my_179_0 from List.mem_of_getElem? (i := 7) rfl))
theorem cd_179_14 : mt_cd 179 14 = some (.iaload) := mt_cd_of (q := (14, .iaload, 1)) mq_179 ci_179 (List.mem_append_left _ (show _ ∈ my_179_0 from List.mem_of_getElem? (i := 8) rfl))
theorem cd_179_15 : mt_cd 179 15 = some (.tableswitch 147 22 27 #[37, 39, 41, 77, 113, 132]) := mt_cd_of (q := (15, .tableswitch 147 22 27 #[37, 39, 41, 77, 113, 132], 37)) mq_179 ci_179 (List.mem_append_left _ (show _ ∈ my_179_0 from List.mem_of_getElem? (i := 9) rfl))
theorem cd_179_52 : mt_cd 179 52 = some (.iconst 1) := mt_cd_of (q := (52, .iconst 1, 1)) mq_179 ci_179 (List.mem_append_left _ (show _ ∈ my_179_0 from List.mem_of_getElem? (i := 10) rfl))
theorem cd_179_53 : mt_cd 179 53 = some (.ireturn) := mt_cd_of (q := (53, .ireturn, 1)) mq_179 ci_179 (List.mem_append_left _ (show _ ∈ my_179_0 from List.mem_of_getElem? (i := 11) rfl))
theorem cd_179_54 : mt_cd 179 54 = some (.iconst 0) := mt_cd_of (q := (54, .iconst 0, 1)) mq_179 ci_179 (List.mem_append_left _ (show _ ∈ my_179_0 from List.mem_of_getElem? (i := 12) rfl))
theorem cd_179_55 : mt_cd 179 55 = some (.ireturn) := mt_cd_of (q := (55, .ireturn, 1)) mq_179 ci_179 (List.mem_append_left _ (show _ ∈ my_179_0 from List.mem_of_getElem? (i := 13) rfl))
theorem cd_179_56 : mt_cd 179 56 = some (.aload_n 0) := mt_cd_of (q := (56, .aload_n 0, 1)) mq_179 ci_179 (List.mem_append_left _ (show _ ∈ my_179_0 from List.mem_of_getElem? (i := 14) rfl))
theorem cd_179_57 : mt_cd 179 57 = some (.aload_n 0) := mt_cd_of (q := (57, .aload_n 0, 1)) mq_179 ci_179 (List.mem_append_left _ (show _ ∈ my_179_0 from List.mem_of_getElem? (i := 15) rfl))
theorem cd_179_58 : mt_cd 179 58 = some (.getfield 80) := mt_cd_of (q := (58, .getfield 80, 3)) mq_179 ci_179 (List.mem_append_left _ (show _ ∈ my_179_0 from List.mem_of_getElem? (i := 16) rfl))
theorem cd_179_61 : mt_cd 179 61 = some (.iload_n 1) := mt_cd_of (q := (61, .iload_n 1, 1)) mq_179 ci_179 (List.mem_append_left _ (show _ ∈ my_179_0 from List.mem_of_getElem? (i := 17) rfl))
theorem cd_179_62 : mt_cd 179 62 = some (.iaload) := mt_cd_of (q := (62, .iaload, 1)) mq_179 ci_179 (List.mem_append_left _ (show _ ∈ my_179_0 from List.mem_of_getElem? (i := 18) rfl))
theorem cd_179_63 : mt_cd 179 63 = some (.invokevirtual 477) := mt_cd_of (q := (63, .invokevirtual 477, 3)) mq_179 ci_179 (List.mem_append_left _ (show _ ∈ my_179_0 from List.mem_of_getElem? (i := 19) rfl))
theorem cd_179_66 : mt_cd 179 66 = some (.istore_n 2) := mt_cd_of (q := (66, .istore_n 2, 1)) mq_179 ci_179 (List.mem_append_left _ (show _ ∈ my_179_0 from List.mem_of_getElem? (i := 20) rfl))
theorem cd_179_67 : mt_cd 179 67 = some (.aload_n 0) := mt_cd_of (q := (67, .aload_n 0, 1)) mq_179 ci_179 (List.mem_append_left _ (show _ ∈ my_179_0 from List.mem_of_getElem? (i := 21) rfl))
theorem cd_179_68 : mt_cd 179 68 = some (.aload_n 0) := mt_cd_of (q := (68, .aload_n 0, 1)) mq_179 ci_179 (List.mem_append_left _ (show _ ∈ my_179_0 from List.mem_of_getElem? (i := 22) rfl))
theorem cd_179_69 : mt_cd 179 69 = some (.getfield 83) := mt_cd_of (q := (69, .getfield 83, 3)) mq_179 ci_179 (List.mem_append_left _ (show _ ∈ my_179_0 from List.mem_of_getElem? (i := 23) rfl))
theorem cd_179_72 : mt_cd 179 72 = some (.iload_n 1) := mt_cd_of (q := (72, .iload_n 1, 1)) mq_179 ci_179 (List.mem_append_left _ (show _ ∈ my_179_0 from List.mem_of_getElem? (i := 24) rfl))
theorem cd_179_73 : mt_cd 179 73 = some (.iaload) := mt_cd_of (q := (73, .iaload, 1)) mq_179 ci_179 (List.mem_append_left _ (show _ ∈ my_179_0 from List.mem_of_getElem? (i := 25) rfl))
theorem cd_179_74 : mt_cd 179 74 = some (.invokevirtual 477) := mt_cd_of (q := (74, .invokevirtual 477, 3)) mq_179 ci_179 (List.mem_append_left _ (show _ ∈ my_179_0 from List.mem_of_getElem? (i := 26) rfl))
theorem cd_179_77 : mt_cd 179 77 = some (.istore_n 3) := mt_cd_of (q := (77, .istore_n 3, 1)) mq_179 ci_179 (List.mem_append_left _ (show _ ∈ my_179_0 from List.mem_of_getElem? (i := 27) rfl))
theorem cd_179_78 : mt_cd 179 78 = some (.iload_n 2) := mt_cd_of (q := (78, .iload_n 2, 1)) mq_179 ci_179 (List.mem_append_left _ (show _ ∈ my_179_0 from List.mem_of_getElem? (i := 28) rfl))
theorem cd_179_79 : mt_cd 179 79 = some (.ifCond .eq 11) := mt_cd_of (q := (79, .ifCond .eq 11, 3)) mq_179 ci_179 (List.mem_append_left _ (show _ ∈ my_179_0 from List.mem_of_getElem? (i := 29) rfl))
theorem cd_179_82 : mt_cd 179 82 = some (.iload_n 3) := mt_cd_of (q := (82, .iload_n 3, 1)) mq_179 ci_179 (List.mem_append_left _ (show _ ∈ my_179_0 from List.mem_of_getElem? (i := 30) rfl))
theorem cd_179_83 : mt_cd 179 83 = some (.ifCond .eq 7) := mt_cd_of (q := (83, .ifCond .eq 7, 3)) mq_179 ci_179 (List.mem_append_left _ (show _ ∈ my_179_0 from List.mem_of_getElem? (i := 31) rfl))
theorem cd_179_86 : mt_cd 179 86 = some (.iconst 1) := mt_cd_of (q := (86, .iconst 1, 1)) mq_179 ci_179 (List.mem_append_left _ (show _ ∈ my_179_0 from List.mem_of_getElem? (i := 32) rfl))
theorem cd_179_87 : mt_cd 179 87 = some (.goto 4) := mt_cd_of (q := (87, .goto 4, 3)) mq_179 ci_179 (List.mem_append_left _ (show _ ∈ my_179_0 from List.mem_of_getElem? (i := 33) rfl))
theorem cd_179_90 : mt_cd 179 90 = some (.iconst 0) := mt_cd_of (q := (90, .iconst 0, 1)) mq_179 ci_179 (List.mem_append_left _ (show _ ∈ my_179_0 from List.mem_of_getElem? (i := 34) rfl))
theorem cd_179_91 : mt_cd 179 91 = some (.ireturn) := mt_cd_of (q := (91, .ireturn, 1)) mq_179 ci_179 (List.mem_append_left _ (show _ ∈ my_179_0 from List.mem_of_getElem? (i := 35) rfl))
theorem cd_179_92 : mt_cd 179 92 = some (.aload_n 0) := mt_cd_of (q := (92, .aload_n 0, 1)) mq_179 ci_179 (List.mem_append_left _ (show _ ∈ my_179_0 from List.mem_of_getElem? (i := 36) rfl))
theorem cd_179_93 : mt_cd 179 93 = some (.aload_n 0) := mt_cd_of (q := (93, .aload_n 0, 1)) mq_179 ci_179 (List.mem_append_left _ (show _ ∈ my_179_0 from List.mem_of_getElem? (i := 37) rfl))
theorem cd_179_94 : mt_cd 179 94 = some (.getfield 80) := mt_cd_of (q := (94, .getfield 80, 3)) mq_179 ci_179 (List.mem_append_left _ (show _ ∈ my_179_0 from List.mem_of_getElem? (i := 38) rfl))
theorem cd_179_97 : mt_cd 179 97 = some (.iload_n 1) := mt_cd_of (q := (97, .iload_n 1, 1)) mq_179 ci_179 (List.mem_append_left _ (show _ ∈ my_179_0 from List.mem_of_getElem? (i := 39) rfl))
theorem cd_179_98 : mt_cd 179 98 = some (.iaload) := mt_cd_of (q := (98, .iaload, 1)) mq_179 ci_179 (List.mem_append_left _ (show _ ∈ my_179_0 from List.mem_of_getElem? (i := 40) rfl))
theorem cd_179_99 : mt_cd 179 99 = some (.invokevirtual 477) := mt_cd_of (q := (99, .invokevirtual 477, 3)) mq_179 ci_179 (List.mem_append_left _ (show _ ∈ my_179_0 from List.mem_of_getElem? (i := 41) rfl))
theorem cd_179_102 : mt_cd 179 102 = some (.istore_n 2) := mt_cd_of (q := (102, .istore_n 2, 1)) mq_179 ci_179 (List.mem_append_left _ (show _ ∈ my_179_0 from List.mem_of_getElem? (i := 42) rfl))
theorem cd_179_103 : mt_cd 179 103 = some (.aload_n 0) := mt_cd_of (q := (103, .aload_n 0, 1)) mq_179 ci_179 (List.mem_append_left _ (show _ ∈ my_179_0 from List.mem_of_getElem? (i := 43) rfl))
theorem cd_179_104 : mt_cd 179 104 = some (.aload_n 0) := mt_cd_of (q := (104, .aload_n 0, 1)) mq_179 ci_179 (List.mem_append_left _ (show _ ∈ my_179_0 from List.mem_of_getElem? (i := 44) rfl))
theorem cd_179_105 : mt_cd 179 105 = some (.getfield 83) := mt_cd_of (q := (105, .getfield 83, 3)) mq_179 ci_179 (List.mem_append_left _ (show _ ∈ my_179_0 from List.mem_of_getElem? (i := 45) rfl))
theorem cd_179_108 : mt_cd 179 108 = some (.iload_n 1) := mt_cd_of (q := (108, .iload_n 1, 1)) mq_179 ci_179 (List.mem_append_left _ (show _ ∈ my_179_0 from List.mem_of_getElem? (i := 46) rfl))
theorem cd_179_109 : mt_cd 179 109 = some (.iaload) := mt_cd_of (q := (109, .iaload, 1)) mq_179 ci_179 (List.mem_append_left _ (show _ ∈ my_179_0 from List.mem_of_getElem? (i := 47) rfl))
theorem cd_179_110 : mt_cd 179 110 = some (.invokevirtual 477) := mt_cd_of (q := (110, .invokevirtual 477, 3)) mq_179 ci_179 (List.mem_append_left _ (show _ ∈ my_179_0 from List.mem_of_getElem? (i := 48) rfl))
theorem cd_179_113 : mt_cd 179 113 = some (.istore_n 3) := mt_cd_of (q := (113, .istore_n 3, 1)) mq_179 ci_179 (List.mem_append_left _ (show _ ∈ my_179_0 from List.mem_of_getElem? (i := 49) rfl))
theorem cd_179_114 : mt_cd 179 114 = some (.iload_n 2) := mt_cd_of (q := (114, .iload_n 2, 1)) mq_179 ci_179 (List.mem_append_left _ (show _ ∈ my_179_0 from List.mem_of_getElem? (i := 50) rfl))
theorem cd_179_115 : mt_cd 179 115 = some (.ifCond .ne 7) := mt_cd_of (q := (115, .ifCond .ne 7, 3)) mq_179 ci_179 (List.mem_append_left _ (show _ ∈ my_179_0 from List.mem_of_getElem? (i := 51) rfl))
theorem cd_179_118 : mt_cd 179 118 = some (.iload_n 3) := mt_cd_of (q := (118, .iload_n 3, 1)) mq_179 ci_179 (List.mem_append_left _ (show _ ∈ my_179_0 from List.mem_of_getElem? (i := 52) rfl))
theorem cd_179_119 : mt_cd 179 119 = some (.ifCond .eq 7) := mt_cd_of (q := (119, .ifCond .eq 7, 3)) mq_179 ci_179 (List.mem_append_left _ (show _ ∈ my_179_0 from List.mem_of_getElem? (i := 53) rfl))
theorem cd_179_122 : mt_cd 179 122 = some (.iconst 1) := mt_cd_of (q := (122, .iconst 1, 1)) mq_179 ci_179 (List.mem_append_left _ (show _ ∈ my_179_0 from List.mem_of_getElem? (i := 54) rfl))
theorem cd_179_123 : mt_cd 179 123 = some (.goto 4) := mt_cd_of (q := (123, .goto 4, 3)) mq_179 ci_179 (List.mem_append_left _ (show _ ∈ my_179_0 from List.mem_of_getElem? (i := 55) rfl))
theorem cd_179_126 : mt_cd 179 126 = some (.iconst 0) := mt_cd_of (q := (126, .iconst 0, 1)) mq_179 ci_179 (List.mem_append_left _ (show _ ∈ my_179_0 from List.mem_of_getElem? (i := 56) rfl))
theorem cd_179_127 : mt_cd 179 127 = some (.ireturn) := mt_cd_of (q := (127, .ireturn, 1)) mq_179 ci_179 (List.mem_append_left _ (show _ ∈ my_179_0 from List.mem_of_getElem? (i := 57) rfl))
theorem cd_179_128 : mt_cd 179 128 = some (.aload_n 0) := mt_cd_of (q := (128, .aload_n 0, 1)) mq_179 ci_179 (List.mem_append_left _ (show _ ∈ my_179_0 from List.mem_of_getElem? (i := 58) rfl))
theorem cd_179_129 : mt_cd 179 129 = some (.aload_n 0) := mt_cd_of (q := (129, .aload_n 0, 1)) mq_179 ci_179 (List.mem_append_left _ (show _ ∈ my_179_0 from List.mem_of_getElem? (i := 59) rfl))
theorem cd_179_130 : mt_cd 179 130 = some (.getfield 80) := mt_cd_of (q := (130, .getfield 80, 3)) mq_179 ci_179 (List.mem_append_right _ (List.mem_append_left _ (show _ ∈ my_179_1 from List.mem_of_getElem? (i := 0) rfl)))
theorem cd_179_133 : mt_cd 179 133 = some (.iload_n 1) := mt_cd_of (q := (133, .iload_n 1, 1)) mq_179 ci_179 (List.mem_append_right _ (List.mem_append_left _ (show _ ∈ my_179_1 from List.mem_of_getElem? (i := 1) rfl)))
theorem cd_179_134 : mt_cd 179 134 = some (.iaload) := mt_cd_of (q := (134, .iaload, 1)) mq_179 ci_179 (List.mem_append_right _ (List.mem_append_left _ (show _ ∈ my_179_1 from List.mem_of_getElem? (i := 2) rfl)))
theorem cd_179_135 : mt_cd 179 135 = some (.invokevirtual 477) := mt_cd_of (q := (135, .invokevirtual 477, 3)) mq_179 ci_179 (List.mem_append_right _ (List.mem_append_left _ (show _ ∈ my_179_1 from List.mem_of_getElem? (i := 3) rfl)))
theorem cd_179_138 : mt_cd 179 138 = some (.ifCond .ne 7) := mt_cd_of (q := (138, .ifCond .ne 7, 3)) mq_179 ci_179 (List.mem_append_right _ (List.mem_append_left _ (show _ ∈ my_179_1 from List.mem_of_getElem? (i := 4) rfl)))
theorem cd_179_141 : mt_cd 179 141 = some (.iconst 1) := mt_cd_of (q := (141, .iconst 1, 1)) mq_179 ci_179 (List.mem_append_right _ (List.mem_append_left _ (show _ ∈ my_179_1 from List.mem_of_getElem? (i := 5) rfl)))
theorem cd_179_142 : mt_cd 179 142 = some (.goto 4) := mt_cd_of (q := (142, .goto 4, 3)) mq_179 ci_179 (List.mem_append_right _ (List.mem_append_left _ (show _ ∈ my_179_1 from List.mem_of_getElem? (i := 6) rfl)))
theorem cd_179_145 : mt_cd 179 145 = some (.iconst 0) := mt_cd_of (q := (145, .iconst 0, 1)) mq_179 ci_179 (List.mem_append_right _ (List.mem_append_left _ (show _ ∈ my_179_1 from List.mem_of_getElem? (i := 7) rfl)))
theorem cd_179_146 : mt_cd 179 146 = some (.ireturn) := mt_cd_of (q := (146, .ireturn, 1)) mq_179 ci_179 (List.mem_append_right _ (List.mem_append_left _ (show _ ∈ my_179_1 from List.mem_of_getElem? (i := 8) rfl)))
theorem cd_179_147 : mt_cd 179 147 = some (.aload_n 0) := mt_cd_of (q := (147, .aload_n 0, 1)) mq_179 ci_179 (List.mem_append_right _ (List.mem_append_left _ (show _ ∈ my_179_1 from List.mem_of_getElem? (i := 9) rfl)))
theorem cd_179_148 : mt_cd 179 148 = some (.getfield 445) := mt_cd_of (q := (148, .getfield 445, 3)) mq_179 ci_179 (List.mem_append_right _ (List.mem_append_left _ (show _ ∈ my_179_1 from List.mem_of_getElem? (i := 10) rfl)))
theorem cd_179_151 : mt_cd 179 151 = some (.getfield 459) := mt_cd_of (q := (151, .getfield 459, 3)) mq_179 ci_179 (List.mem_append_right _ (List.mem_append_left _ (show _ ∈ my_179_1 from List.mem_of_getElem? (i := 11) rfl)))
theorem cd_179_154 : mt_cd 179 154 = some (.aload_n 0) := mt_cd_of (q := (154, .aload_n 0, 1)) mq_179 ci_179 (List.mem_append_right _ (List.mem_append_left _ (show _ ∈ my_179_1 from List.mem_of_getElem? (i := 12) rfl)))
theorem cd_179_155 : mt_cd 179 155 = some (.getfield 80) := mt_cd_of (q := (155, .getfield 80, 3)) mq_179 ci_179 (List.mem_append_right _ (List.mem_append_left _ (show _ ∈ my_179_1 from List.mem_of_getElem? (i := 13) rfl)))
theorem cd_179_158 : mt_cd 179 158 = some (.iload_n 1) := mt_cd_of (q := (158, .iload_n 1, 1)) mq_179 ci_179 (List.mem_append_right _ (List.mem_append_left _ (show _ ∈ my_179_1 from List.mem_of_getElem? (i := 14) rfl)))
theorem cd_179_159 : mt_cd 179 159 = some (.iaload) := mt_cd_of (q := (159, .iaload, 1)) mq_179 ci_179 (List.mem_append_right _ (List.mem_append_left _ (show _ ∈ my_179_1 from List.mem_of_getElem? (i := 15) rfl)))
theorem cd_179_160 : mt_cd 179 160 = some (.baload) := mt_cd_of (q := (160, .baload, 1)) mq_179 ci_179 (List.mem_append_right _ (List.mem_append_left _ (show _ ∈ my_179_1 from List.mem_of_getElem? (i := 16) rfl)))
theorem cd_179_161 : mt_cd 179 161 = some (.ireturn) := mt_cd_of (q := (161, .ireturn, 1)) mq_179 ci_179 (List.mem_append_right _ (List.mem_append_left _ (show _ ∈ my_179_1 from List.mem_of_getElem? (i := 17) rfl)))
theorem cd_179_162 : mt_cd 179 162 = some (.aload_n 0) := mt_cd_of (q := (162, .aload_n 0, 1)) mq_179 ci_179 (List.mem_append_right _ (List.mem_append_left _ (show _ ∈ my_179_1 from List.mem_of_getElem? (i := 18) rfl)))
theorem cd_179_163 : mt_cd 179 163 = some (.aload_n 0) := mt_cd_of (q := (163, .aload_n 0, 1)) mq_179 ci_179 (List.mem_append_right _ (List.mem_append_left _ (show _ ∈ my_179_1 from List.mem_of_getElem? (i := 19) rfl)))
theorem cd_179_164 : mt_cd 179 164 = some (.getfield 80) := mt_cd_of (q := (164, .getfield 80, 3)) mq_179 ci_179 (List.mem_append_right _ (List.mem_append_left _ (show _ ∈ my_179_1 from List.mem_of_getElem? (i := 20) rfl)))
theorem cd_179_167 : mt_cd 179 167 = some (.iload_n 1) := mt_cd_of (q := (167, .iload_n 1, 1)) mq_179 ci_179 (List.mem_append_right _ (List.mem_append_left _ (show _ ∈ my_179_1 from List.mem_of_getElem? (i := 21) rfl)))
theorem cd_179_168 : mt_cd 179 168 = some (.iaload) := mt_cd_of (q := (168, .iaload, 1)) mq_179 ci_179 (List.mem_append_right _ (List.mem_append_left _ (show _ ∈ my_179_1 from List.mem_of_getElem? (i := 22) rfl)))
theorem cd_179_169 : mt_cd 179 169 = some (.invokevirtual 451) := mt_cd_of (q := (169, .invokevirtual 451, 3)) mq_179 ci_179 (List.mem_append_right _ (List.mem_append_left _ (show _ ∈ my_179_1 from List.mem_of_getElem? (i := 23) rfl)))
theorem cd_179_172 : mt_cd 179 172 = some (.lstore_n 2) := mt_cd_of (q := (172, .lstore_n 2, 1)) mq_179 ci_179 (List.mem_append_right _ (List.mem_append_left _ (show _ ∈ my_179_1 from List.mem_of_getElem? (i := 24) rfl)))
theorem cd_179_173 : mt_cd 179 173 = some (.aload_n 0) := mt_cd_of (q := (173, .aload_n 0, 1)) mq_179 ci_179 (List.mem_append_right _ (List.mem_append_left _ (show _ ∈ my_179_1 from List.mem_of_getElem? (i := 25) rfl)))
theorem cd_179_174 : mt_cd 179 174 = some (.aload_n 0) := mt_cd_of (q := (174, .aload_n 0, 1)) mq_179 ci_179 (List.mem_append_right _ (List.mem_append_left _ (show _ ∈ my_179_1 from List.mem_of_getElem? (i := 26) rfl)))
theorem cd_179_175 : mt_cd 179 175 = some (.getfield 83) := mt_cd_of (q := (175, .getfield 83, 3)) mq_179 ci_179 (List.mem_append_right _ (List.mem_append_left _ (show _ ∈ my_179_1 from List.mem_of_getElem? (i := 27) rfl)))
theorem cd_179_178 : mt_cd 179 178 = some (.iload_n 1) := mt_cd_of (q := (178, .iload_n 1, 1)) mq_179 ci_179 (List.mem_append_right _ (List.mem_append_left _ (show _ ∈ my_179_1 from List.mem_of_getElem? (i := 28) rfl)))
theorem cd_179_179 : mt_cd 179 179 = some (.iaload) := mt_cd_of (q := (179, .iaload, 1)) mq_179 ci_179 (List.mem_append_right _ (List.mem_append_left _ (show _ ∈ my_179_1 from List.mem_of_getElem? (i := 29) rfl)))
theorem cd_179_180 : mt_cd 179 180 = some (.invokevirtual 451) := mt_cd_of (q := (180, .invokevirtual 451, 3)) mq_179 ci_179 (List.mem_append_right _ (List.mem_append_left _ (show _ ∈ my_179_1 from List.mem_of_getElem? (i := 30) rfl)))
theorem cd_179_183 : mt_cd 179 183 = some (.lstore 4) := mt_cd_of (q := (183, .lstore 4, 2)) mq_179 ci_179 (List.mem_append_right _ (List.mem_append_left _ (show _ ∈ my_179_1 from List.mem_of_getElem? (i := 31) rfl)))
theorem cd_179_185 : mt_cd 179 185 = some (.aload_n 0) := mt_cd_of (q := (185, .aload_n 0, 1)) mq_179 ci_179 (List.mem_append_right _ (List.mem_append_left _ (show _ ∈ my_179_1 from List.mem_of_getElem? (i := 32) rfl)))
theorem cd_179_186 : mt_cd 179 186 = some (.getfield 77) := mt_cd_of (q := (186, .getfield 77, 3)) mq_179 ci_179 (List.mem_append_right _ (List.mem_append_left _ (show _ ∈ my_179_1 from List.mem_of_getElem? (i := 33) rfl)))
theorem cd_179_189 : mt_cd 179 189 = some (.iload_n 1) := mt_cd_of (q := (189, .iload_n 1, 1)) mq_179 ci_179 (List.mem_append_right _ (List.mem_append_left _ (show _ ∈ my_179_1 from List.mem_of_getElem? (i := 34) rfl)))
theorem cd_179_190 : mt_cd 179 190 = some (.iaload) := mt_cd_of (q := (190, .iaload, 1)) mq_179 ci_179 (List.mem_append_right _ (List.mem_append_left _ (show _ ∈ my_179_1 from List.mem_of_getElem? (i := 35) rfl)))
theorem cd_179_191 : mt_cd 179 191 = some (.bipush 28) := mt_cd_of (q := (191, .bipush 28, 2)) mq_179 ci_179 (List.mem_append_right _ (List.mem_append_left _ (show _ ∈ my_179_1 from List.mem_of_getElem? (i := 36) rfl)))
theorem cd_179_193 : mt_cd 179 193 = some (.if_icmp .ne 18) := mt_cd_of (q := (193, .if_icmp .ne 18, 3)) mq_179 ci_179 (List.mem_append_right _ (List.mem_append_left _ (show _ ∈ my_179_1 from List.mem_of_getElem? (i := 37) rfl)))
theorem cd_179_196 : mt_cd 179 196 = some (.lload_n 2) := mt_cd_of (q := (196, .lload_n 2, 1)) mq_179 ci_179 (List.mem_append_right _ (List.mem_append_left _ (show _ ∈ my_179_1 from List.mem_of_getElem? (i := 38) rfl)))
theorem cd_179_197 : mt_cd 179 197 = some (.lload 4) := mt_cd_of (q := (197, .lload 4, 2)) mq_179 ci_179 (List.mem_append_right _ (List.mem_append_left _ (show _ ∈ my_179_1 from List.mem_of_getElem? (i := 39) rfl)))
theorem cd_179_199 : mt_cd 179 199 = some (.lcmp) := mt_cd_of (q := (199, .lcmp, 1)) mq_179 ci_179 (List.mem_append_right _ (List.mem_append_left _ (show _ ∈ my_179_1 from List.mem_of_getElem? (i := 40) rfl)))
theorem cd_179_200 : mt_cd 179 200 = some (.ifCond .lt 7) := mt_cd_of (q := (200, .ifCond .lt 7, 3)) mq_179 ci_179 (List.mem_append_right _ (List.mem_append_left _ (show _ ∈ my_179_1 from List.mem_of_getElem? (i := 41) rfl)))
theorem cd_179_203 : mt_cd 179 203 = some (.iconst 1) := mt_cd_of (q := (203, .iconst 1, 1)) mq_179 ci_179 (List.mem_append_right _ (List.mem_append_left _ (show _ ∈ my_179_1 from List.mem_of_getElem? (i := 42) rfl)))
theorem cd_179_204 : mt_cd 179 204 = some (.goto 97) := mt_cd_of (q := (204, .goto 97, 3)) mq_179 ci_179 (List.mem_append_right _ (List.mem_append_left _ (show _ ∈ my_179_1 from List.mem_of_getElem? (i := 43) rfl)))
theorem cd_179_207 : mt_cd 179 207 = some (.iconst 0) := mt_cd_of (q := (207, .iconst 0, 1)) mq_179 ci_179 (List.mem_append_right _ (List.mem_append_left _ (show _ ∈ my_179_1 from List.mem_of_getElem? (i := 44) rfl)))
theorem cd_179_208 : mt_cd 179 208 = some (.goto 93) := mt_cd_of (q := (208, .goto 93, 3)) mq_179 ci_179 (List.mem_append_right _ (List.mem_append_left _ (show _ ∈ my_179_1 from List.mem_of_getElem? (i := 45) rfl)))
theorem cd_179_211 : mt_cd 179 211 = some (.aload_n 0) := mt_cd_of (q := (211, .aload_n 0, 1)) mq_179 ci_179 (List.mem_append_right _ (List.mem_append_left _ (show _ ∈ my_179_1 from List.mem_of_getElem? (i := 46) rfl)))
theorem cd_179_212 : mt_cd 179 212 = some (.getfield 77) := mt_cd_of (q := (212, .getfield 77, 3)) mq_179 ci_179 (List.mem_append_right _ (List.mem_append_left _ (show _ ∈ my_179_1 from List.mem_of_getElem? (i := 47) rfl)))
theorem cd_179_215 : mt_cd 179 215 = some (.iload_n 1) := mt_cd_of (q := (215, .iload_n 1, 1)) mq_179 ci_179 (List.mem_append_right _ (List.mem_append_left _ (show _ ∈ my_179_1 from List.mem_of_getElem? (i := 48) rfl)))
theorem cd_179_216 : mt_cd 179 216 = some (.iaload) := mt_cd_of (q := (216, .iaload, 1)) mq_179 ci_179 (List.mem_append_right _ (List.mem_append_left _ (show _ ∈ my_179_1 from List.mem_of_getElem? (i := 49) rfl)))
theorem cd_179_217 : mt_cd 179 217 = some (.bipush 29) := mt_cd_of (q := (217, .bipush 29, 2)) mq_179 ci_179 (List.mem_append_right _ (List.mem_append_left _ (show _ ∈ my_179_1 from List.mem_of_getElem? (i := 50) rfl)))
theorem cd_179_219 : mt_cd 179 219 = some (.if_icmp .ne 18) := mt_cd_of (q := (219, .if_icmp .ne 18, 3)) mq_179 ci_179 (List.mem_append_right _ (List.mem_append_left _ (show _ ∈ my_179_1 from List.mem_of_getElem? (i := 51) rfl)))
theorem cd_179_222 : mt_cd 179 222 = some (.lload_n 2) := mt_cd_of (q := (222, .lload_n 2, 1)) mq_179 ci_179 (List.mem_append_right _ (List.mem_append_left _ (show _ ∈ my_179_1 from List.mem_of_getElem? (i := 52) rfl)))
theorem cd_179_223 : mt_cd 179 223 = some (.lload 4) := mt_cd_of (q := (223, .lload 4, 2)) mq_179 ci_179 (List.mem_append_right _ (List.mem_append_left _ (show _ ∈ my_179_1 from List.mem_of_getElem? (i := 53) rfl)))
theorem cd_179_225 : mt_cd 179 225 = some (.lcmp) := mt_cd_of (q := (225, .lcmp, 1)) mq_179 ci_179 (List.mem_append_right _ (List.mem_append_left _ (show _ ∈ my_179_1 from List.mem_of_getElem? (i := 54) rfl)))
theorem cd_179_226 : mt_cd 179 226 = some (.ifCond .le 7) := mt_cd_of (q := (226, .ifCond .le 7, 3)) mq_179 ci_179 (List.mem_append_right _ (List.mem_append_left _ (show _ ∈ my_179_1 from List.mem_of_getElem? (i := 55) rfl)))
theorem cd_179_229 : mt_cd 179 229 = some (.iconst 1) := mt_cd_of (q := (229, .iconst 1, 1)) mq_179 ci_179 (List.mem_append_right _ (List.mem_append_left _ (show _ ∈ my_179_1 from List.mem_of_getElem? (i := 56) rfl)))
theorem cd_179_230 : mt_cd 179 230 = some (.goto 71) := mt_cd_of (q := (230, .goto 71, 3)) mq_179 ci_179 (List.mem_append_right _ (List.mem_append_left _ (show _ ∈ my_179_1 from List.mem_of_getElem? (i := 57) rfl)))
theorem cd_179_233 : mt_cd 179 233 = some (.iconst 0) := mt_cd_of (q := (233, .iconst 0, 1)) mq_179 ci_179 (List.mem_append_right _ (List.mem_append_left _ (show _ ∈ my_179_1 from List.mem_of_getElem? (i := 58) rfl)))
theorem cd_179_234 : mt_cd 179 234 = some (.goto 67) := mt_cd_of (q := (234, .goto 67, 3)) mq_179 ci_179 (List.mem_append_right _ (List.mem_append_left _ (show _ ∈ my_179_1 from List.mem_of_getElem? (i := 59) rfl)))
theorem cd_179_237 : mt_cd 179 237 = some (.aload_n 0) := mt_cd_of (q := (237, .aload_n 0, 1)) mq_179 ci_179 (List.mem_append_right _ (List.mem_append_right _ ((show _ ∈ my_179_2 from List.mem_of_getElem? (i := 0) rfl))))
theorem cd_179_238 : mt_cd 179 238 = some (.getfield 77) := mt_cd_of (q := (238, .getfield 77, 3)) mq_179 ci_179 (List.mem_append_right _ (List.mem_append_right _ ((show _ ∈ my_179_2 from List.mem_of_getElem? (i := 1) rfl))))
theorem cd_179_241 : mt_cd 179 241 = some (.iload_n 1) := mt_cd_of (q := (241, .iload_n 1, 1)) mq_179 ci_179 (List.mem_append_right _ (List.mem_append_right _ ((show _ ∈ my_179_2 from List.mem_of_getElem? (i := 2) rfl))))
theorem cd_179_242 : mt_cd 179 242 = some (.iaload) := mt_cd_of (q := (242, .iaload, 1)) mq_179 ci_179 (List.mem_append_right _ (List.mem_append_right _ ((show _ ∈ my_179_2 from List.mem_of_getElem? (i := 3) rfl))))
theorem cd_179_243 : mt_cd 179 243 = some (.bipush 30) := mt_cd_of (q := (243, .bipush 30, 2)) mq_179 ci_179 (List.mem_append_right _ (List.mem_append_right _ ((show _ ∈ my_179_2 from List.mem_of_getElem? (i := 4) rfl))))
theorem cd_179_245 : mt_cd 179 245 = some (.if_icmp .ne 18) := mt_cd_of (q := (245, .if_icmp .ne 18, 3)) mq_179 ci_179 (List.mem_append_right _ (List.mem_append_right _ ((show _ ∈ my_179_2 from List.mem_of_getElem? (i := 5) rfl))))
theorem cd_179_248 : mt_cd 179 248 = some (.lload_n 2) := mt_cd_of (q := (248, .lload_n 2, 1)) mq_179 ci_179 (List.mem_append_right _ (List.mem_append_right _ ((show _ ∈ my_179_2 from List.mem_of_getElem? (i := 6) rfl))))
theorem cd_179_249 : mt_cd 179 249 = some (.lload 4) := mt_cd_of (q := (249, .lload 4, 2)) mq_179 ci_179 (List.mem_append_right _ (List.mem_append_right _ ((show _ ∈ my_179_2 from List.mem_of_getElem? (i := 7) rfl))))
theorem cd_179_251 : mt_cd 179 251 = some (.lcmp) := mt_cd_of (q := (251, .lcmp, 1)) mq_179 ci_179 (List.mem_append_right _ (List.mem_append_right _ ((show _ ∈ my_179_2 from List.mem_of_getElem? (i := 8) rfl))))
theorem cd_179_252 : mt_cd 179 252 = some (.ifCond .gt 7) := mt_cd_of (q := (252, .ifCond .gt 7, 3)) mq_179 ci_179 (List.mem_append_right _ (List.mem_append_right _ ((show _ ∈ my_179_2 from List.mem_of_getElem? (i := 9) rfl))))
theorem cd_179_255 : mt_cd 179 255 = some (.iconst 1) := mt_cd_of (q := (255, .iconst 1, 1)) mq_179 ci_179 (List.mem_append_right _ (List.mem_append_right _ ((show _ ∈ my_179_2 from List.mem_of_getElem? (i := 10) rfl))))
theorem cd_179_256 : mt_cd 179 256 = some (.goto 45) := mt_cd_of (q := (256, .goto 45, 3)) mq_179 ci_179 (List.mem_append_right _ (List.mem_append_right _ ((show _ ∈ my_179_2 from List.mem_of_getElem? (i := 11) rfl))))
theorem cd_179_259 : mt_cd 179 259 = some (.iconst 0) := mt_cd_of (q := (259, .iconst 0, 1)) mq_179 ci_179 (List.mem_append_right _ (List.mem_append_right _ ((show _ ∈ my_179_2 from List.mem_of_getElem? (i := 12) rfl))))
theorem cd_179_260 : mt_cd 179 260 = some (.goto 41) := mt_cd_of (q := (260, .goto 41, 3)) mq_179 ci_179 (List.mem_append_right _ (List.mem_append_right _ ((show _ ∈ my_179_2 from List.mem_of_getElem? (i := 13) rfl))))
theorem cd_179_263 : mt_cd 179 263 = some (.aload_n 0) := mt_cd_of (q := (263, .aload_n 0, 1)) mq_179 ci_179 (List.mem_append_right _ (List.mem_append_right _ ((show _ ∈ my_179_2 from List.mem_of_getElem? (i := 14) rfl))))
theorem cd_179_264 : mt_cd 179 264 = some (.getfield 77) := mt_cd_of (q := (264, .getfield 77, 3)) mq_179 ci_179 (List.mem_append_right _ (List.mem_append_right _ ((show _ ∈ my_179_2 from List.mem_of_getElem? (i := 15) rfl))))
theorem cd_179_267 : mt_cd 179 267 = some (.iload_n 1) := mt_cd_of (q := (267, .iload_n 1, 1)) mq_179 ci_179 (List.mem_append_right _ (List.mem_append_right _ ((show _ ∈ my_179_2 from List.mem_of_getElem? (i := 16) rfl))))
theorem cd_179_268 : mt_cd 179 268 = some (.iaload) := mt_cd_of (q := (268, .iaload, 1)) mq_179 ci_179 (List.mem_append_right _ (List.mem_append_right _ ((show _ ∈ my_179_2 from List.mem_of_getElem? (i := 17) rfl))))
theorem cd_179_269 : mt_cd 179 269 = some (.bipush 31) := mt_cd_of (q := (269, .bipush 31, 2)) mq_179 ci_179 (List.mem_append_right _ (List.mem_append_right _ ((show _ ∈ my_179_2 from List.mem_of_getElem? (i := 18) rfl))))
theorem cd_179_271 : mt_cd 179 271 = some (.if_icmp .ne 18) := mt_cd_of (q := (271, .if_icmp .ne 18, 3)) mq_179 ci_179 (List.mem_append_right _ (List.mem_append_right _ ((show _ ∈ my_179_2 from List.mem_of_getElem? (i := 19) rfl))))
theorem cd_179_274 : mt_cd 179 274 = some (.lload_n 2) := mt_cd_of (q := (274, .lload_n 2, 1)) mq_179 ci_179 (List.mem_append_right _ (List.mem_append_right _ ((show _ ∈ my_179_2 from List.mem_of_getElem? (i := 20) rfl))))
theorem cd_179_275 : mt_cd 179 275 = some (.lload 4) := mt_cd_of (q := (275, .lload 4, 2)) mq_179 ci_179 (List.mem_append_right _ (List.mem_append_right _ ((show _ ∈ my_179_2 from List.mem_of_getElem? (i := 21) rfl))))
theorem cd_179_277 : mt_cd 179 277 = some (.lcmp) := mt_cd_of (q := (277, .lcmp, 1)) mq_179 ci_179 (List.mem_append_right _ (List.mem_append_right _ ((show _ ∈ my_179_2 from List.mem_of_getElem? (i := 22) rfl))))
theorem cd_179_278 : mt_cd 179 278 = some (.ifCond .ge 7) := mt_cd_of (q := (278, .ifCond .ge 7, 3)) mq_179 ci_179 (List.mem_append_right _ (List.mem_append_right _ ((show _ ∈ my_179_2 from List.mem_of_getElem? (i := 23) rfl))))
theorem cd_179_281 : mt_cd 179 281 = some (.iconst 1) := mt_cd_of (q := (281, .iconst 1, 1)) mq_179 ci_179 (List.mem_append_right _ (List.mem_append_right _ ((show _ ∈ my_179_2 from List.mem_of_getElem? (i := 24) rfl))))
theorem cd_179_282 : mt_cd 179 282 = some (.goto 19) := mt_cd_of (q := (282, .goto 19, 3)) mq_179 ci_179 (List.mem_append_right _ (List.mem_append_right _ ((show _ ∈ my_179_2 from List.mem_of_getElem? (i := 25) rfl))))
theorem cd_179_285 : mt_cd 179 285 = some (.iconst 0) := mt_cd_of (q := (285, .iconst 0, 1)) mq_179 ci_179 (List.mem_append_right _ (List.mem_append_right _ ((show _ ∈ my_179_2 from List.mem_of_getElem? (i := 26) rfl))))
theorem cd_179_286 : mt_cd 179 286 = some (.goto 15) := mt_cd_of (q := (286, .goto 15, 3)) mq_179 ci_179 (List.mem_append_right _ (List.mem_append_right _ ((show _ ∈ my_179_2 from List.mem_of_getElem? (i := 27) rfl))))
theorem cd_179_289 : mt_cd 179 289 = some (.lload_n 2) := mt_cd_of (q := (289, .lload_n 2, 1)) mq_179 ci_179 (List.mem_append_right _ (List.mem_append_right _ ((show _ ∈ my_179_2 from List.mem_of_getElem? (i := 28) rfl))))
theorem cd_179_290 : mt_cd 179 290 = some (.lload 4) := mt_cd_of (q := (290, .lload 4, 2)) mq_179 ci_179 (List.mem_append_right _ (List.mem_append_right _ ((show _ ∈ my_179_2 from List.mem_of_getElem? (i := 29) rfl))))
theorem cd_179_292 : mt_cd 179 292 = some (.lcmp) := mt_cd_of (q := (292, .lcmp, 1)) mq_179 ci_179 (List.mem_append_right _ (List.mem_append_right _ ((show _ ∈ my_179_2 from List.mem_of_getElem? (i := 30) rfl))))
theorem cd_179_293 : mt_cd 179 293 = some (.ifCond .ne 7) := mt_cd_of (q := (293, .ifCond .ne 7, 3)) mq_179 ci_179 (List.mem_append_right _ (List.mem_append_right _ ((show _ ∈ my_179_2 from List.mem_of_getElem? (i := 31) rfl))))
theorem cd_179_296 : mt_cd 179 296 = some (.iconst 1) := mt_cd_of (q := (296, .iconst 1, 1)) mq_179 ci_179 (List.mem_append_right _ (List.mem_append_right _ ((show _ ∈ my_179_2 from List.mem_of_getElem? (i := 32) rfl))))
theorem cd_179_297 : mt_cd 179 297 = some (.goto 4) := mt_cd_of (q := (297, .goto 4, 3)) mq_179 ci_179 (List.mem_append_right _ (List.mem_append_right _ ((show _ ∈ my_179_2 from List.mem_of_getElem? (i := 33) rfl))))
theorem cd_179_300 : mt_cd 179 300 = some (.iconst 0) := mt_cd_of (q := (300, .iconst 0, 1)) mq_179 ci_179 (List.mem_append_right _ (List.mem_append_right _ ((show _ ∈ my_179_2 from List.mem_of_getElem? (i := 34) rfl))))
theorem cd_179_301 : mt_cd 179 301 = some (.ireturn) := mt_cd_of (q := (301, .ireturn, 1)) mq_179 ci_179 (List.mem_append_right _ (List.mem_append_right _ ((show _ ∈ my_179_2 from List.mem_of_getElem? (i := 35) rfl))))
theorem b_179_0 {d : Nat} {Q : (Option Value ⊕ Nat) → mi_H → Prop} (n sl : Nat) (f : Nat → mi_C) {l1 : Nat} {l2 : Int32} {o3 : Option Value} {o4 : Option Value} {o5 : Option Value} {o6 : Option Value} {fs7 : List Value} {x10 : Int32} (h8 : f l1 = .inr (12, fs7)) (h9 : l1 < n) (h11 : fs7[46]? = some (.int x10)) (h12 : x10 = (0 : Int32) → mi_W d 179 9 [some (.ref l1), some (.int l2), o3, o4, o5, o6] [] (n, sl, f) Q) (h13 : ¬ (x10 = (0 : Int32)) → mi_W d 179 7 [some (.ref l1), some (.int l2), o3, o4, o5, o6] [] (n, sl, f) Q) : mi_W d 179 0 [some (.ref l1), some (.int l2), o3, o4, o5, o6] [] (n, sl, f) Q := by
  refine w_aload_n cd_179_0 rfl ?_
  refine w_getfield cd_179_1 (show mt_f 12 441 = some (12, 46) by decide +kernel) h8 h9 h11 ?_
  exact w_ifeq cd_179_4 (by decide) h12 h13
theorem b_179_7 {d : Nat} {Q : (Option Value ⊕ Nat) → mi_H → Prop} (n sl : Nat) (f : Nat → mi_C) {l1 : Nat} {l2 : Int32} {o3 : Option Value} {o4 : Option Value} {o5 : Option Value} {o6 : Option Value} (h7 : Q (.inl (some (.int 0))) (n, sl, f)) : mi_W d 179 7 [some (.ref l1), some (.int l2), o3, o4, o5, o6] [] (n, sl, f) Q := by
  refine w_iconst (v := 0) cd_179_7 (by decide) ?_
  exact w_ireturn_z cd_179_8 (by decide +kernel) (by decide) h7
theorem b_179_9 {d : Nat} {Q : (Option Value ⊕ Nat) → mi_H → Prop} (n sl : Nat) (f : Nat → mi_C) {l1 : Nat} {l2 : Int32} {o3 : Option Value} {o4 : Option Value} {o5 : Option Value} {o6 : Option Value} {fs7 : List Value} {x10 : Nat} (m12 i12 : Nat) (g12 : Nat → Int32) {t16 : Nat} (h8 : f l1 = .inr (12, fs7)) (h9 : l1 < n) (h11 : fs7[12]? = some (.ref x10)) (h13 : f x10 = .inl (0, m12, .inl g12)) (h14 : x10 < n ∨ x10 = mi_SC) (h15 : mi_ix l2 m12 i12) (h17 : mi_ts 15 147 22 27 #[37, 39, 41, 77, 113, 132] ((g12 i12) : Int32).toInt = some t16) (h18 : mi_W d 179 t16 [some (.ref l1), some (.int l2), o3, o4, o5, o6] [] (n, sl, f) Q) : mi_W d 179 9 [some (.ref l1), some (.int l2), o3, o4, o5, o6] [] (n, sl, f) Q := by
  refine w_aload_n cd_179_9 rfl ?_
  refine w_getfield cd_179_10 (show mt_f 12 77 = some (12, 12) by decide +kernel) h8 h9 h11 ?_
  refine w_iload_n cd_179_13 rfl ?_
  refine w_iaload cd_179_14 h13 h14 h15 ?_
  exact w_tableswitch cd_179_15 h17 h18
theorem b_179_52 {d : Nat} {Q : (Option Value ⊕ Nat) → mi_H → Prop} (n sl : Nat) (f : Nat → mi_C) {l1 : Nat} {l2 : Int32} {o3 : Option Value} {o4 : Option Value} {o5 : Option Value} {o6 : Option Value} (h7 : Q (.inl (some (.int 1))) (n, sl, f)) : mi_W d 179 52 [some (.ref l1), some (.int l2), o3, o4, o5, o6] [] (n, sl, f) Q := by
  refine w_iconst (v := 1) cd_179_52 (by decide) ?_
  exact w_ireturn_z cd_179_53 (by decide +kernel) (by decide) h7
theorem b_179_54 {d : Nat} {Q : (Option Value ⊕ Nat) → mi_H → Prop} (n sl : Nat) (f : Nat → mi_C) {l1 : Nat} {l2 : Int32} {o3 : Option Value} {o4 : Option Value} {o5 : Option Value} {o6 : Option Value} (h7 : Q (.inl (some (.int 0))) (n, sl, f)) : mi_W d 179 54 [some (.ref l1), some (.int l2), o3, o4, o5, o6] [] (n, sl, f) Q := by
  refine w_iconst (v := 0) cd_179_54 (by decide) ?_
  exact w_ireturn_z cd_179_55 (by decide +kernel) (by decide) h7
theorem b_179_56 {d : Nat} {Q : (Option Value ⊕ Nat) → mi_H → Prop} (n sl : Nat) (f : Nat → mi_C) {l1 : Nat} {l2 : Int32} {o3 : Option Value} {o4 : Option Value} {o5 : Option Value} {o6 : Option Value} {fs7 : List Value} {x10 : Nat} (m12 i12 : Nat) (g12 : Nat → Int32) {fs16 : List Value} (h8 : f l1 = .inr (12, fs7)) (h9 : l1 < n) (h11 : fs7[13]? = some (.ref x10)) (h13 : f x10 = .inl (0, m12, .inl g12)) (h14 : x10 < n ∨ x10 = mi_SC) (h15 : mi_ix l2 m12 i12) (h17 : f l1 = .inr (12, fs16)) (h18 : l1 < n) (h19 : mi_W d 179 0 (mi_en 6 [.ref l1, .int (g12 i12)]) [] (n, sl, f) (mi_Kc d 179 63 [some (.ref l1), some (.int l2), o3, o4, o5, o6] [] Q)) : mi_W (d + 1) 179 56 [some (.ref l1), some (.int l2), o3, o4, o5, o6] [] (n, sl, f) Q := by
  refine w_aload_n cd_179_56 rfl ?_
  refine w_aload_n cd_179_57 rfl ?_
  refine w_getfield cd_179_58 (show mt_f 12 80 = some (12, 13) by decide +kernel) h8 h9 h11 ?_
  refine w_iload_n cd_179_61 rfl ?_
  refine w_iaload cd_179_62 h13 h14 h15 ?_
  exact w_invokevirtual cd_179_63 (show mt_m 12 477 = some (179, 0) by decide +kernel) (rest := []) rfl (as := [.ref l1, .int (g12 i12)]) rfl h17 (Or.inl h18) ⟨Nat.le_of_ble_eq_true rfl, Nat.le_of_ble_eq_true rfl, Nat.le_of_ble_eq_true rfl⟩ h19
theorem b_179_66 {d : Nat} {Q : (Option Value ⊕ Nat) → mi_H → Prop} (n sl : Nat) (f : Nat → mi_C) {l1 : Nat} {l2 : Int32} {o3 : Option Value} {o4 : Option Value} {o5 : Option Value} {o6 : Option Value} {s7 : Int32} {fs8 : List Value} {x11 : Nat} (m13 i13 : Nat) (g13 : Nat → Int32) {fs17 : List Value} (h9 : f l1 = .inr (12, fs8)) (h10 : l1 < n) (h12 : fs8[14]? = some (.ref x11)) (h14 : f x11 = .inl (0, m13, .inl g13)) (h15 : x11 < n ∨ x11 = mi_SC) (h16 : mi_ix l2 m13 i13) (h18 : f l1 = .inr (12, fs17)) (h19 : l1 < n) (h20 : mi_W d 179 0 (mi_en 6 [.ref l1, .int (g13 i13)]) [] (n, sl, f) (mi_Kc d 179 74 [some (.ref l1), some (.int l2), some (.int s7), o4, o5, o6] [] Q)) : mi_W (d + 1) 179 66 [some (.ref l1), some (.int l2), o3, o4, o5, o6] [.int s7] (n, sl, f) Q := by
  refine w_istore_n (ls' := [some (.ref l1), some (.int l2), some (.int s7), o4, o5, o6]) cd_179_66 (Nat.le_of_ble_eq_true rfl) rfl ?_
  refine w_aload_n cd_179_67 rfl ?_
  refine w_aload_n cd_179_68 rfl ?_
  refine w_getfield cd_179_69 (show mt_f 12 83 = some (12, 14) by decide +kernel) h9 h10 h12 ?_
  refine w_iload_n cd_179_72 rfl ?_
  refine w_iaload cd_179_73 h14 h15 h16 ?_
  exact w_invokevirtual cd_179_74 (show mt_m 12 477 = some (179, 0) by decide +kernel) (rest := []) rfl (as := [.ref l1, .int (g13 i13)]) rfl h18 (Or.inl h19) ⟨Nat.le_of_ble_eq_true rfl, Nat.le_of_ble_eq_true rfl, Nat.le_of_ble_eq_true rfl⟩ h20
theorem b_179_77 {d : Nat} {Q : (Option Value ⊕ Nat) → mi_H → Prop} (n sl : Nat) (f : Nat → mi_C) {l1 : Nat} {l2 : Int32} {l3 : Int32} {o4 : Option Value} {o5 : Option Value} {o6 : Option Value} {s7 : Int32} (h8 : l3 = (0 : Int32) → mi_W d 179 90 [some (.ref l1), some (.int l2), some (.int l3), some (.int s7), o5, o6] [] (n, sl, f) Q) (h9 : ¬ (l3 = (0 : Int32)) → mi_W d 179 82 [some (.ref l1), some (.int l2), some (.int l3), some (.int s7), o5, o6] [] (n, sl, f) Q) : mi_W d 179 77 [some (.ref l1), some (.int l2), some (.int l3), o4, o5, o6] [.int s7] (n, sl, f) Q := by
  refine w_istore_n (ls' := [some (.ref l1), some (.int l2), some (.int l3), some (.int s7), o5, o6]) cd_179_77 (Nat.le_of_ble_eq_true rfl) rfl ?_
  refine w_iload_n cd_179_78 rfl ?_
  exact w_ifeq cd_179_79 (by decide) h8 h9
theorem b_179_82 {d : Nat} {Q : (Option Value ⊕ Nat) → mi_H → Prop} (n sl : Nat) (f : Nat → mi_C) {l1 : Nat} {l2 : Int32} {l3 : Int32} {l4 : Int32} {o5 : Option Value} {o6 : Option Value} (h7 : l4 = (0 : Int32) → mi_W d 179 90 [some (.ref l1), some (.int l2), some (.int l3), some (.int l4), o5, o6] [] (n, sl, f) Q) (h8 : ¬ (l4 = (0 : Int32)) → mi_W d 179 86 [some (.ref l1), some (.int l2), some (.int l3), some (.int l4), o5, o6] [] (n, sl, f) Q) : mi_W d 179 82 [some (.ref l1), some (.int l2), some (.int l3), some (.int l4), o5, o6] [] (n, sl, f) Q := by
  refine w_iload_n cd_179_82 rfl ?_
  exact w_ifeq cd_179_83 (by decide) h7 h8
theorem b_179_86 {d : Nat} {Q : (Option Value ⊕ Nat) → mi_H → Prop} (n sl : Nat) (f : Nat → mi_C) {l1 : Nat} {l2 : Int32} {l3 : Int32} {l4 : Int32} {o5 : Option Value} {o6 : Option Value} (h7 : mi_W d 179 91 [some (.ref l1), some (.int l2), some (.int l3), some (.int l4), o5, o6] [.int 1] (n, sl, f) Q) : mi_W d 179 86 [some (.ref l1), some (.int l2), some (.int l3), some (.int l4), o5, o6] [] (n, sl, f) Q := by
  refine w_iconst (v := 1) cd_179_86 (by decide) ?_
  exact w_goto cd_179_87 (by decide) h7
theorem b_179_90 {d : Nat} {Q : (Option Value ⊕ Nat) → mi_H → Prop} (n sl : Nat) (f : Nat → mi_C) {l1 : Nat} {l2 : Int32} {l3 : Int32} {l4 : Int32} {o5 : Option Value} {o6 : Option Value} (h7 : mi_W d 179 91 [some (.ref l1), some (.int l2), some (.int l3), some (.int l4), o5, o6] [.int 0] (n, sl, f) Q) : mi_W d 179 90 [some (.ref l1), some (.int l2), some (.int l3), some (.int l4), o5, o6] [] (n, sl, f) Q := by
  refine w_iconst (v := 0) cd_179_90 (by decide) ?_
  exact h7
theorem b_179_91 {d : Nat} {Q : (Option Value ⊕ Nat) → mi_H → Prop} (n sl : Nat) (f : Nat → mi_C) {l1 : Nat} {l2 : Int32} {l3 : Int32} {l4 : Int32} {o5 : Option Value} {o6 : Option Value} {s7 : Int32} (h8 : s7 = 0 ∨ s7 = 1) (h9 : Q (.inl (some (.int s7))) (n, sl, f)) : mi_W d 179 91 [some (.ref l1), some (.int l2), some (.int l3), some (.int l4), o5, o6] [.int s7] (n, sl, f) Q := by
  exact w_ireturn_z cd_179_91 (by decide +kernel) h8 h9
theorem b_179_92 {d : Nat} {Q : (Option Value ⊕ Nat) → mi_H → Prop} (n sl : Nat) (f : Nat → mi_C) {l1 : Nat} {l2 : Int32} {o3 : Option Value} {o4 : Option Value} {o5 : Option Value} {o6 : Option Value} {fs7 : List Value} {x10 : Nat} (m12 i12 : Nat) (g12 : Nat → Int32) {fs16 : List Value} (h8 : f l1 = .inr (12, fs7)) (h9 : l1 < n) (h11 : fs7[13]? = some (.ref x10)) (h13 : f x10 = .inl (0, m12, .inl g12)) (h14 : x10 < n ∨ x10 = mi_SC) (h15 : mi_ix l2 m12 i12) (h17 : f l1 = .inr (12, fs16)) (h18 : l1 < n) (h19 : mi_W d 179 0 (mi_en 6 [.ref l1, .int (g12 i12)]) [] (n, sl, f) (mi_Kc d 179 99 [some (.ref l1), some (.int l2), o3, o4, o5, o6] [] Q)) : mi_W (d + 1) 179 92 [some (.ref l1), some (.int l2), o3, o4, o5, o6] [] (n, sl, f) Q := by
  refine w_aload_n cd_179_92 rfl ?_
  refine w_aload_n cd_179_93 rfl ?_
  refine w_getfield cd_179_94 (show mt_f 12 80 = some (12, 13) by decide +kernel) h8 h9 h11 ?_
  refine w_iload_n cd_179_97 rfl ?_
  refine w_iaload cd_179_98 h13 h14 h15 ?_
  exact w_invokevirtual cd_179_99 (show mt_m 12 477 = some (179, 0) by decide +kernel) (rest := []) rfl (as := [.ref l1, .int (g12 i12)]) rfl h17 (Or.inl h18) ⟨Nat.le_of_ble_eq_true rfl, Nat.le_of_ble_eq_true rfl, Nat.le_of_ble_eq_true rfl⟩ h19
theorem b_179_102 {d : Nat} {Q : (Option Value ⊕ Nat) → mi_H → Prop} (n sl : Nat) (f : Nat → mi_C) {l1 : Nat} {l2 : Int32} {o3 : Option Value} {o4 : Option Value} {o5 : Option Value} {o6 : Option Value} {s7 : Int32} {fs8 : List Value} {x11 : Nat} (m13 i13 : Nat) (g13 : Nat → Int32) {fs17 : List Value} (h9 : f l1 = .inr (12, fs8)) (h10 : l1 < n) (h12 : fs8[14]? = some (.ref x11)) (h14 : f x11 = .inl (0, m13, .inl g13)) (h15 : x11 < n ∨ x11 = mi_SC) (h16 : mi_ix l2 m13 i13) (h18 : f l1 = .inr (12, fs17)) (h19 : l1 < n) (h20 : mi_W d 179 0 (mi_en 6 [.ref l1, .int (g13 i13)]) [] (n, sl, f) (mi_Kc d 179 110 [some (.ref l1), some (.int l2), some (.int s7), o4, o5, o6] [] Q)) : mi_W (d + 1) 179 102 [some (.ref l1), some (.int l2), o3, o4, o5, o6] [.int s7] (n, sl, f) Q := by
  refine w_istore_n (ls' := [some (.ref l1), some (.int l2), some (.int s7), o4, o5, o6]) cd_179_102 (Nat.le_of_ble_eq_true rfl) rfl ?_
  refine w_aload_n cd_179_103 rfl ?_
  refine w_aload_n cd_179_104 rfl ?_
  refine w_getfield cd_179_105 (show mt_f 12 83 = some (12, 14) by decide +kernel) h9 h10 h12 ?_
  refine w_iload_n cd_179_108 rfl ?_
  refine w_iaload cd_179_109 h14 h15 h16 ?_
  exact w_invokevirtual cd_179_110 (show mt_m 12 477 = some (179, 0) by decide +kernel) (rest := []) rfl (as := [.ref l1, .int (g13 i13)]) rfl h18 (Or.inl h19) ⟨Nat.le_of_ble_eq_true rfl, Nat.le_of_ble_eq_true rfl, Nat.le_of_ble_eq_true rfl⟩ h20
theorem b_179_113 {d : Nat} {Q : (Option Value ⊕ Nat) → mi_H → Prop} (n sl : Nat) (f : Nat → mi_C) {l1 : Nat} {l2 : Int32} {l3 : Int32} {o4 : Option Value} {o5 : Option Value} {o6 : Option Value} {s7 : Int32} (h8 : ¬ l3 = (0 : Int32) → mi_W d 179 122 [some (.ref l1), some (.int l2), some (.int l3), some (.int s7), o5, o6] [] (n, sl, f) Q) (h9 : ¬ (¬ l3 = (0 : Int32)) → mi_W d 179 118 [some (.ref l1), some (.int l2), some (.int l3), some (.int s7), o5, o6] [] (n, sl, f) Q) : mi_W d 179 113 [some (.ref l1), some (.int l2), some (.int l3), o4, o5, o6] [.int s7] (n, sl, f) Q := by
  refine w_istore_n (ls' := [some (.ref l1), some (.int l2), some (.int l3), some (.int s7), o5, o6]) cd_179_113 (Nat.le_of_ble_eq_true rfl) rfl ?_
  refine w_iload_n cd_179_114 rfl ?_
  exact w_ifne cd_179_115 (by decide) h8 h9
theorem b_179_118 {d : Nat} {Q : (Option Value ⊕ Nat) → mi_H → Prop} (n sl : Nat) (f : Nat → mi_C) {l1 : Nat} {l2 : Int32} {l3 : Int32} {l4 : Int32} {o5 : Option Value} {o6 : Option Value} (h7 : l4 = (0 : Int32) → mi_W d 179 126 [some (.ref l1), some (.int l2), some (.int l3), some (.int l4), o5, o6] [] (n, sl, f) Q) (h8 : ¬ (l4 = (0 : Int32)) → mi_W d 179 122 [some (.ref l1), some (.int l2), some (.int l3), some (.int l4), o5, o6] [] (n, sl, f) Q) : mi_W d 179 118 [some (.ref l1), some (.int l2), some (.int l3), some (.int l4), o5, o6] [] (n, sl, f) Q := by
  refine w_iload_n cd_179_118 rfl ?_
  exact w_ifeq cd_179_119 (by decide) h7 h8
theorem b_179_122 {d : Nat} {Q : (Option Value ⊕ Nat) → mi_H → Prop} (n sl : Nat) (f : Nat → mi_C) {l1 : Nat} {l2 : Int32} {l3 : Int32} {l4 : Int32} {o5 : Option Value} {o6 : Option Value} (h7 : mi_W d 179 127 [some (.ref l1), some (.int l2), some (.int l3), some (.int l4), o5, o6] [.int 1] (n, sl, f) Q) : mi_W d 179 122 [some (.ref l1), some (.int l2), some (.int l3), some (.int l4), o5, o6] [] (n, sl, f) Q := by
  refine w_iconst (v := 1) cd_179_122 (by decide) ?_
  exact w_goto cd_179_123 (by decide) h7
theorem b_179_126 {d : Nat} {Q : (Option Value ⊕ Nat) → mi_H → Prop} (n sl : Nat) (f : Nat → mi_C) {l1 : Nat} {l2 : Int32} {l3 : Int32} {l4 : Int32} {o5 : Option Value} {o6 : Option Value} (h7 : mi_W d 179 127 [some (.ref l1), some (.int l2), some (.int l3), some (.int l4), o5, o6] [.int 0] (n, sl, f) Q) : mi_W d 179 126 [some (.ref l1), some (.int l2), some (.int l3), some (.int l4), o5, o6] [] (n, sl, f) Q := by
  refine w_iconst (v := 0) cd_179_126 (by decide) ?_
  exact h7
theorem b_179_127 {d : Nat} {Q : (Option Value ⊕ Nat) → mi_H → Prop} (n sl : Nat) (f : Nat → mi_C) {l1 : Nat} {l2 : Int32} {l3 : Int32} {l4 : Int32} {o5 : Option Value} {o6 : Option Value} {s7 : Int32} (h8 : s7 = 0 ∨ s7 = 1) (h9 : Q (.inl (some (.int s7))) (n, sl, f)) : mi_W d 179 127 [some (.ref l1), some (.int l2), some (.int l3), some (.int l4), o5, o6] [.int s7] (n, sl, f) Q := by
  exact w_ireturn_z cd_179_127 (by decide +kernel) h8 h9
theorem b_179_128 {d : Nat} {Q : (Option Value ⊕ Nat) → mi_H → Prop} (n sl : Nat) (f : Nat → mi_C) {l1 : Nat} {l2 : Int32} {o3 : Option Value} {o4 : Option Value} {o5 : Option Value} {o6 : Option Value} {fs7 : List Value} {x10 : Nat} (m12 i12 : Nat) (g12 : Nat → Int32) {fs16 : List Value} (h8 : f l1 = .inr (12, fs7)) (h9 : l1 < n) (h11 : fs7[13]? = some (.ref x10)) (h13 : f x10 = .inl (0, m12, .inl g12)) (h14 : x10 < n ∨ x10 = mi_SC) (h15 : mi_ix l2 m12 i12) (h17 : f l1 = .inr (12, fs16)) (h18 : l1 < n) (h19 : mi_W d 179 0 (mi_en 6 [.ref l1, .int (g12 i12)]) [] (n, sl, f) (mi_Kc d 179 135 [some (.ref l1), some (.int l2), o3, o4, o5, o6] [] Q)) : mi_W (d + 1) 179 128 [some (.ref l1), some (.int l2), o3, o4, o5, o6] [] (n, sl, f) Q := by
  refine w_aload_n cd_179_128 rfl ?_
  refine w_aload_n cd_179_129 rfl ?_
  refine w_getfield cd_179_130 (show mt_f 12 80 = some (12, 13) by decide +kernel) h8 h9 h11 ?_
  refine w_iload_n cd_179_133 rfl ?_
  refine w_iaload cd_179_134 h13 h14 h15 ?_
  exact w_invokevirtual cd_179_135 (show mt_m 12 477 = some (179, 0) by decide +kernel) (rest := []) rfl (as := [.ref l1, .int (g12 i12)]) rfl h17 (Or.inl h18) ⟨Nat.le_of_ble_eq_true rfl, Nat.le_of_ble_eq_true rfl, Nat.le_of_ble_eq_true rfl⟩ h19
theorem b_179_138 {d : Nat} {Q : (Option Value ⊕ Nat) → mi_H → Prop} (n sl : Nat) (f : Nat → mi_C) {l1 : Nat} {l2 : Int32} {o3 : Option Value} {o4 : Option Value} {o5 : Option Value} {o6 : Option Value} {s7 : Int32} (h8 : ¬ s7 = (0 : Int32) → mi_W d 179 145 [some (.ref l1), some (.int l2), o3, o4, o5, o6] [] (n, sl, f) Q) (h9 : ¬ (¬ s7 = (0 : Int32)) → mi_W d 179 141 [some (.ref l1), some (.int l2), o3, o4, o5, o6] [] (n, sl, f) Q) : mi_W d 179 138 [some (.ref l1), some (.int l2), o3, o4, o5, o6] [.int s7] (n, sl, f) Q := by
  exact w_ifne cd_179_138 (by decide) h8 h9
theorem b_179_141 {d : Nat} {Q : (Option Value ⊕ Nat) → mi_H → Prop} (n sl : Nat) (f : Nat → mi_C) {l1 : Nat} {l2 : Int32} {o3 : Option Value} {o4 : Option Value} {o5 : Option Value} {o6 : Option Value} (h7 : mi_W d 179 146 [some (.ref l1), some (.int l2), o3, o4, o5, o6] [.int 1] (n, sl, f) Q) : mi_W d 179 141 [some (.ref l1), some (.int l2), o3, o4, o5, o6] [] (n, sl, f) Q := by
  refine w_iconst (v := 1) cd_179_141 (by decide) ?_
  exact w_goto cd_179_142 (by decide) h7
theorem b_179_145 {d : Nat} {Q : (Option Value ⊕ Nat) → mi_H → Prop} (n sl : Nat) (f : Nat → mi_C) {l1 : Nat} {l2 : Int32} {o3 : Option Value} {o4 : Option Value} {o5 : Option Value} {o6 : Option Value} (h7 : mi_W d 179 146 [some (.ref l1), some (.int l2), o3, o4, o5, o6] [.int 0] (n, sl, f) Q) : mi_W d 179 145 [some (.ref l1), some (.int l2), o3, o4, o5, o6] [] (n, sl, f) Q := by
  refine w_iconst (v := 0) cd_179_145 (by decide) ?_
  exact h7
theorem b_179_146 {d : Nat} {Q : (Option Value ⊕ Nat) → mi_H → Prop} (n sl : Nat) (f : Nat → mi_C) {l1 : Nat} {l2 : Int32} {o3 : Option Value} {o4 : Option Value} {o5 : Option Value} {o6 : Option Value} {s7 : Int32} (h8 : s7 = 0 ∨ s7 = 1) (h9 : Q (.inl (some (.int s7))) (n, sl, f)) : mi_W d 179 146 [some (.ref l1), some (.int l2), o3, o4, o5, o6] [.int s7] (n, sl, f) Q := by
  exact w_ireturn_z cd_179_146 (by decide +kernel) h8 h9
theorem b_179_147 {d : Nat} {Q : (Option Value ⊕ Nat) → mi_H → Prop} (n sl : Nat) (f : Nat → mi_C) {l1 : Nat} {l2 : Int32} {o3 : Option Value} {o4 : Option Value} {o5 : Option Value} {o6 : Option Value} {fs7 : List Value} {x10 : Nat} {fs12 : List Value} {x15 : Nat} {fs17 : List Value} {x20 : Nat} (m22 i22 : Nat) (g22 : Nat → Int32) (m26 i26 : Nat) (g26 : Nat → Int32) (h8 : f l1 = .inr (12, fs7)) (h9 : l1 < n) (h11 : fs7[43]? = some (.ref x10)) (h13 : f x10 = .inr (13, fs12)) (h14 : x10 < n) (h16 : fs12[5]? = some (.ref x15)) (h18 : f l1 = .inr (12, fs17)) (h19 : l1 < n) (h21 : fs17[13]? = some (.ref x20)) (h23 : f x20 = .inl (0, m22, .inl g22)) (h24 : x20 < n ∨ x20 = mi_SC) (h25 : mi_ix l2 m22 i22) (h27 : f x15 = .inl (2, m26, .inl g26)) (h28 : x15 < n) (h29 : mi_ix (g22 i22) m26 i26) (h30 : (g26 i26) = 0 ∨ (g26 i26) = 1) (h31 : Q (.inl (some (.int (g26 i26)))) (n, sl, f)) : mi_W d 179 147 [some (.ref l1), some (.int l2), o3, o4, o5, o6] [] (n, sl, f) Q := by
  refine w_aload_n cd_179_147 rfl ?_
  refine w_getfield cd_179_148 (show mt_f 12 445 = some (12, 43) by decide +kernel) h8 h9 h11 ?_
  refine w_getfield cd_179_151 (show mt_f 12 459 = some (13, 5) by decide +kernel) h13 h14 h16 ?_
  refine w_aload_n cd_179_154 rfl ?_
  refine w_getfield cd_179_155 (show mt_f 12 80 = some (12, 13) by decide +kernel) h18 h19 h21 ?_
  refine w_iload_n cd_179_158 rfl ?_
  refine w_iaload cd_179_159 h23 h24 h25 ?_
  refine w_baload2 cd_179_160 h27 h28 h29 ?_
  exact w_ireturn_z cd_179_161 (by decide +kernel) h30 h31
theorem b_179_162 {d : Nat} {Q : (Option Value ⊕ Nat) → mi_H → Prop} (n sl : Nat) (f : Nat → mi_C) {l1 : Nat} {l2 : Int32} {o3 : Option Value} {o4 : Option Value} {o5 : Option Value} {o6 : Option Value} {fs7 : List Value} {x10 : Nat} (m12 i12 : Nat) (g12 : Nat → Int32) {fs16 : List Value} (h8 : f l1 = .inr (12, fs7)) (h9 : l1 < n) (h11 : fs7[13]? = some (.ref x10)) (h13 : f x10 = .inl (0, m12, .inl g12)) (h14 : x10 < n ∨ x10 = mi_SC) (h15 : mi_ix l2 m12 i12) (h17 : f l1 = .inr (12, fs16)) (h18 : l1 < n) (h19 : mi_W d 177 0 (mi_en 2 [.ref l1, .int (g12 i12)]) [] (n, sl, f) (mi_Kc d 179 169 [some (.ref l1), some (.int l2), o3, o4, o5, o6] [] Q)) : mi_W (d + 1) 179 162 [some (.ref l1), some (.int l2), o3, o4, o5, o6] [] (n, sl, f) Q := by
  refine w_aload_n cd_179_162 rfl ?_
  refine w_aload_n cd_179_163 rfl ?_
  refine w_getfield cd_179_164 (show mt_f 12 80 = some (12, 13) by decide +kernel) h8 h9 h11 ?_
  refine w_iload_n cd_179_167 rfl ?_
  refine w_iaload cd_179_168 h13 h14 h15 ?_
  exact w_invokevirtual cd_179_169 (show mt_m 12 451 = some (177, 0) by decide +kernel) (rest := []) rfl (as := [.ref l1, .int (g12 i12)]) rfl h17 (Or.inl h18) ⟨Nat.le_of_ble_eq_true rfl, Nat.le_of_ble_eq_true rfl, Nat.le_of_ble_eq_true rfl⟩ h19
theorem b_179_172 {d : Nat} {Q : (Option Value ⊕ Nat) → mi_H → Prop} (n sl : Nat) (f : Nat → mi_C) {l1 : Nat} {l2 : Int32} {o3 : Option Value} {o4 : Option Value} {o5 : Option Value} {o6 : Option Value} {s7 : Int64} {fs8 : List Value} {x11 : Nat} (m13 i13 : Nat) (g13 : Nat → Int32) {fs17 : List Value} (h9 : f l1 = .inr (12, fs8)) (h10 : l1 < n) (h12 : fs8[14]? = some (.ref x11)) (h14 : f x11 = .inl (0, m13, .inl g13)) (h15 : x11 < n ∨ x11 = mi_SC) (h16 : mi_ix l2 m13 i13) (h18 : f l1 = .inr (12, fs17)) (h19 : l1 < n) (h20 : mi_W d 177 0 (mi_en 2 [.ref l1, .int (g13 i13)]) [] (n, sl, f) (mi_Kc d 179 180 [some (.ref l1), some (.int l2), some (.long s7), none, o5, o6] [] Q)) : mi_W (d + 1) 179 172 [some (.ref l1), some (.int l2), o3, o4, o5, o6] [.long s7] (n, sl, f) Q := by
  refine w_lstore_n (ls' := [some (.ref l1), some (.int l2), some (.long s7), none, o5, o6]) cd_179_172 (Nat.le_of_ble_eq_true rfl) rfl ?_
  refine w_aload_n cd_179_173 rfl ?_
  refine w_aload_n cd_179_174 rfl ?_
  refine w_getfield cd_179_175 (show mt_f 12 83 = some (12, 14) by decide +kernel) h9 h10 h12 ?_
  refine w_iload_n cd_179_178 rfl ?_
  refine w_iaload cd_179_179 h14 h15 h16 ?_
  exact w_invokevirtual cd_179_180 (show mt_m 12 451 = some (177, 0) by decide +kernel) (rest := []) rfl (as := [.ref l1, .int (g13 i13)]) rfl h18 (Or.inl h19) ⟨Nat.le_of_ble_eq_true rfl, Nat.le_of_ble_eq_true rfl, Nat.le_of_ble_eq_true rfl⟩ h20
theorem b_179_183 {d : Nat} {Q : (Option Value ⊕ Nat) → mi_H → Prop} (n sl : Nat) (f : Nat → mi_C) {l1 : Nat} {l2 : Int32} {l3 : Int64} {o4 : Option Value} {o5 : Option Value} {s6 : Int64} {fs7 : List Value} {x10 : Nat} (m12 i12 : Nat) (g12 : Nat → Int32) (h8 : f l1 = .inr (12, fs7)) (h9 : l1 < n) (h11 : fs7[12]? = some (.ref x10)) (h13 : f x10 = .inl (0, m12, .inl g12)) (h14 : x10 < n ∨ x10 = mi_SC) (h15 : mi_ix l2 m12 i12) (h16 : ¬ (g12 i12) = 28 → mi_W d 179 211 [some (.ref l1), some (.int l2), some (.long l3), none, some (.long s6), none] [] (n, sl, f) Q) (h17 : ¬ (¬ (g12 i12) = 28) → mi_W d 179 196 [some (.ref l1), some (.int l2), some (.long l3), none, some (.long s6), none] [] (n, sl, f) Q) : mi_W d 179 183 [some (.ref l1), some (.int l2), some (.long l3), none, o4, o5] [.long s6] (n, sl, f) Q := by
  refine w_lstore (ls' := [some (.ref l1), some (.int l2), some (.long l3), none, some (.long s6), none]) cd_179_183 (Nat.le_of_ble_eq_true rfl) rfl ?_
  refine w_aload_n cd_179_185 rfl ?_
  refine w_getfield cd_179_186 (show mt_f 12 77 = some (12, 12) by decide +kernel) h8 h9 h11 ?_
  refine w_iload_n cd_179_189 rfl ?_
  refine w_iaload cd_179_190 h13 h14 h15 ?_
  refine w_bipush (v := 28) cd_179_191 (by decide) ?_
  exact w_if_icmpne cd_179_193 (by decide) h16 h17
theorem b_179_196 {d : Nat} {Q : (Option Value ⊕ Nat) → mi_H → Prop} (n sl : Nat) (f : Nat → mi_C) {l1 : Nat} {l2 : Int32} {l3 : Int64} {l4 : Int64} (h5 : (lg_cmp l3 l4) < (0 : Int32) → mi_W d 179 207 [some (.ref l1), some (.int l2), some (.long l3), none, some (.long l4), none] [] (n, sl, f) Q) (h6 : ¬ ((lg_cmp l3 l4) < (0 : Int32)) → mi_W d 179 203 [some (.ref l1), some (.int l2), some (.long l3), none, some (.long l4), none] [] (n, sl, f) Q) : mi_W d 179 196 [some (.ref l1), some (.int l2), some (.long l3), none, some (.long l4), none] [] (n, sl, f) Q := by
  refine w_lload_n cd_179_196 rfl ?_
  refine w_lload cd_179_197 rfl ?_
  refine w_lcmp cd_179_199 ?_
  exact w_iflt cd_179_200 (by decide) h5 h6
theorem b_179_203 {d : Nat} {Q : (Option Value ⊕ Nat) → mi_H → Prop} (n sl : Nat) (f : Nat → mi_C) {l1 : Nat} {l2 : Int32} {l3 : Int64} {l4 : Int64} (h5 : mi_W d 179 301 [some (.ref l1), some (.int l2), some (.long l3), none, some (.long l4), none] [.int 1] (n, sl, f) Q) : mi_W d 179 203 [some (.ref l1), some (.int l2), some (.long l3), none, some (.long l4), none] [] (n, sl, f) Q := by
  refine w_iconst (v := 1) cd_179_203 (by decide) ?_
  exact w_goto cd_179_204 (by decide) h5
theorem b_179_207 {d : Nat} {Q : (Option Value ⊕ Nat) → mi_H → Prop} (n sl : Nat) (f : Nat → mi_C) {l1 : Nat} {l2 : Int32} {l3 : Int64} {l4 : Int64} (h5 : mi_W d 179 301 [some (.ref l1), some (.int l2), some (.long l3), none, some (.long l4), none] [.int 0] (n, sl, f) Q) : mi_W d 179 207 [some (.ref l1), some (.int l2), some (.long l3), none, some (.long l4), none] [] (n, sl, f) Q := by
  refine w_iconst (v := 0) cd_179_207 (by decide) ?_
  exact w_goto cd_179_208 (by decide) h5
theorem b_179_211 {d : Nat} {Q : (Option Value ⊕ Nat) → mi_H → Prop} (n sl : Nat) (f : Nat → mi_C) {l1 : Nat} {l2 : Int32} {l3 : Int64} {l4 : Int64} {fs5 : List Value} {x8 : Nat} (m10 i10 : Nat) (g10 : Nat → Int32) (h6 : f l1 = .inr (12, fs5)) (h7 : l1 < n) (h9 : fs5[12]? = some (.ref x8)) (h11 : f x8 = .inl (0, m10, .inl g10)) (h12 : x8 < n ∨ x8 = mi_SC) (h13 : mi_ix l2 m10 i10) (h14 : ¬ (g10 i10) = 29 → mi_W d 179 237 [some (.ref l1), some (.int l2), some (.long l3), none, some (.long l4), none] [] (n, sl, f) Q) (h15 : ¬ (¬ (g10 i10) = 29) → mi_W d 179 222 [some (.ref l1), some (.int l2), some (.long l3), none, some (.long l4), none] [] (n, sl, f) Q) : mi_W d 179 211 [some (.ref l1), some (.int l2), some (.long l3), none, some (.long l4), none] [] (n, sl, f) Q := by
  refine w_aload_n cd_179_211 rfl ?_
  refine w_getfield cd_179_212 (show mt_f 12 77 = some (12, 12) by decide +kernel) h6 h7 h9 ?_
  refine w_iload_n cd_179_215 rfl ?_
  refine w_iaload cd_179_216 h11 h12 h13 ?_
  refine w_bipush (v := 29) cd_179_217 (by decide) ?_
  exact w_if_icmpne cd_179_219 (by decide) h14 h15
theorem b_179_222 {d : Nat} {Q : (Option Value ⊕ Nat) → mi_H → Prop} (n sl : Nat) (f : Nat → mi_C) {l1 : Nat} {l2 : Int32} {l3 : Int64} {l4 : Int64} (h5 : (lg_cmp l3 l4) ≤ (0 : Int32) → mi_W d 179 233 [some (.ref l1), some (.int l2), some (.long l3), none, some (.long l4), none] [] (n, sl, f) Q) (h6 : ¬ ((lg_cmp l3 l4) ≤ (0 : Int32)) → mi_W d 179 229 [some (.ref l1), some (.int l2), some (.long l3), none, some (.long l4), none] [] (n, sl, f) Q) : mi_W d 179 222 [some (.ref l1), some (.int l2), some (.long l3), none, some (.long l4), none] [] (n, sl, f) Q := by
  refine w_lload_n cd_179_222 rfl ?_
  refine w_lload cd_179_223 rfl ?_
  refine w_lcmp cd_179_225 ?_
  exact w_ifle cd_179_226 (by decide) h5 h6
theorem b_179_229 {d : Nat} {Q : (Option Value ⊕ Nat) → mi_H → Prop} (n sl : Nat) (f : Nat → mi_C) {l1 : Nat} {l2 : Int32} {l3 : Int64} {l4 : Int64} (h5 : mi_W d 179 301 [some (.ref l1), some (.int l2), some (.long l3), none, some (.long l4), none] [.int 1] (n, sl, f) Q) : mi_W d 179 229 [some (.ref l1), some (.int l2), some (.long l3), none, some (.long l4), none] [] (n, sl, f) Q := by
  refine w_iconst (v := 1) cd_179_229 (by decide) ?_
  exact w_goto cd_179_230 (by decide) h5
theorem b_179_233 {d : Nat} {Q : (Option Value ⊕ Nat) → mi_H → Prop} (n sl : Nat) (f : Nat → mi_C) {l1 : Nat} {l2 : Int32} {l3 : Int64} {l4 : Int64} (h5 : mi_W d 179 301 [some (.ref l1), some (.int l2), some (.long l3), none, some (.long l4), none] [.int 0] (n, sl, f) Q) : mi_W d 179 233 [some (.ref l1), some (.int l2), some (.long l3), none, some (.long l4), none] [] (n, sl, f) Q := by
  refine w_iconst (v := 0) cd_179_233 (by decide) ?_
  exact w_goto cd_179_234 (by decide) h5
theorem b_179_237 {d : Nat} {Q : (Option Value ⊕ Nat) → mi_H → Prop} (n sl : Nat) (f : Nat → mi_C) {l1 : Nat} {l2 : Int32} {l3 : Int64} {l4 : Int64} {fs5 : List Value} {x8 : Nat} (m10 i10 : Nat) (g10 : Nat → Int32) (h6 : f l1 = .inr (12, fs5)) (h7 : l1 < n) (h9 : fs5[12]? = some (.ref x8)) (h11 : f x8 = .inl (0, m10, .inl g10)) (h12 : x8 < n ∨ x8 = mi_SC) (h13 : mi_ix l2 m10 i10) (h14 : ¬ (g10 i10) = 30 → mi_W d 179 263 [some (.ref l1), some (.int l2), some (.long l3), none, some (.long l4), none] [] (n, sl, f) Q) (h15 : ¬ (¬ (g10 i10) = 30) → mi_W d 179 248 [some (.ref l1), some (.int l2), some (.long l3), none, some (.long l4), none] [] (n, sl, f) Q) : mi_W d 179 237 [some (.ref l1), some (.int l2), some (.long l3), none, some (.long l4), none] [] (n, sl, f) Q := by
  refine w_aload_n cd_179_237 rfl ?_
  refine w_getfield cd_179_238 (show mt_f 12 77 = some (12, 12) by decide +kernel) h6 h7 h9 ?_
  refine w_iload_n cd_179_241 rfl ?_
  refine w_iaload cd_179_242 h11 h12 h13 ?_
  refine w_bipush (v := 30) cd_179_243 (by decide) ?_
  exact w_if_icmpne cd_179_245 (by decide) h14 h15
theorem b_179_248 {d : Nat} {Q : (Option Value ⊕ Nat) → mi_H → Prop} (n sl : Nat) (f : Nat → mi_C) {l1 : Nat} {l2 : Int32} {l3 : Int64} {l4 : Int64} (h5 : (0 : Int32) < (lg_cmp l3 l4) → mi_W d 179 259 [some (.ref l1), some (.int l2), some (.long l3), none, some (.long l4), none] [] (n, sl, f) Q) (h6 : ¬ ((0 : Int32) < (lg_cmp l3 l4)) → mi_W d 179 255 [some (.ref l1), some (.int l2), some (.long l3), none, some (.long l4), none] [] (n, sl, f) Q) : mi_W d 179 248 [some (.ref l1), some (.int l2), some (.long l3), none, some (.long l4), none] [] (n, sl, f) Q := by
  refine w_lload_n cd_179_248 rfl ?_
  refine w_lload cd_179_249 rfl ?_
  refine w_lcmp cd_179_251 ?_
  exact w_ifgt cd_179_252 (by decide) h5 h6
theorem b_179_255 {d : Nat} {Q : (Option Value ⊕ Nat) → mi_H → Prop} (n sl : Nat) (f : Nat → mi_C) {l1 : Nat} {l2 : Int32} {l3 : Int64} {l4 : Int64} (h5 : mi_W d 179 301 [some (.ref l1), some (.int l2), some (.long l3), none, some (.long l4), none] [.int 1] (n, sl, f) Q) : mi_W d 179 255 [some (.ref l1), some (.int l2), some (.long l3), none, some (.long l4), none] [] (n, sl, f) Q := by
  refine w_iconst (v := 1) cd_179_255 (by decide) ?_
  exact w_goto cd_179_256 (by decide) h5
theorem b_179_259 {d : Nat} {Q : (Option Value ⊕ Nat) → mi_H → Prop} (n sl : Nat) (f : Nat → mi_C) {l1 : Nat} {l2 : Int32} {l3 : Int64} {l4 : Int64} (h5 : mi_W d 179 301 [some (.ref l1), some (.int l2), some (.long l3), none, some (.long l4), none] [.int 0] (n, sl, f) Q) : mi_W d 179 259 [some (.ref l1), some (.int l2), some (.long l3), none, some (.long l4), none] [] (n, sl, f) Q := by
  refine w_iconst (v := 0) cd_179_259 (by decide) ?_
  exact w_goto cd_179_260 (by decide) h5
theorem b_179_263 {d : Nat} {Q : (Option Value ⊕ Nat) → mi_H → Prop} (n sl : Nat) (f : Nat → mi_C) {l1 : Nat} {l2 : Int32} {l3 : Int64} {l4 : Int64} {fs5 : List Value} {x8 : Nat} (m10 i10 : Nat) (g10 : Nat → Int32) (h6 : f l1 = .inr (12, fs5)) (h7 : l1 < n) (h9 : fs5[12]? = some (.ref x8)) (h11 : f x8 = .inl (0, m10, .inl g10)) (h12 : x8 < n ∨ x8 = mi_SC) (h13 : mi_ix l2 m10 i10) (h14 : ¬ (g10 i10) = 31 → mi_W d 179 289 [some (.ref l1), some (.int l2), some (.long l3), none, some (.long l4), none] [] (n, sl, f) Q) (h15 : ¬ (¬ (g10 i10) = 31) → mi_W d 179 274 [some (.ref l1), some (.int l2), some (.long l3), none, some (.long l4), none] [] (n, sl, f) Q) : mi_W d 179 263 [some (.ref l1), some (.int l2), some (.long l3), none, some (.long l4), none] [] (n, sl, f) Q := by
  refine w_aload_n cd_179_263 rfl ?_
  refine w_getfield cd_179_264 (show mt_f 12 77 = some (12, 12) by decide +kernel) h6 h7 h9 ?_
  refine w_iload_n cd_179_267 rfl ?_
  refine w_iaload cd_179_268 h11 h12 h13 ?_
  refine w_bipush (v := 31) cd_179_269 (by decide) ?_
  exact w_if_icmpne cd_179_271 (by decide) h14 h15
theorem b_179_274 {d : Nat} {Q : (Option Value ⊕ Nat) → mi_H → Prop} (n sl : Nat) (f : Nat → mi_C) {l1 : Nat} {l2 : Int32} {l3 : Int64} {l4 : Int64} (h5 : (0 : Int32) ≤ (lg_cmp l3 l4) → mi_W d 179 285 [some (.ref l1), some (.int l2), some (.long l3), none, some (.long l4), none] [] (n, sl, f) Q) (h6 : ¬ ((0 : Int32) ≤ (lg_cmp l3 l4)) → mi_W d 179 281 [some (.ref l1), some (.int l2), some (.long l3), none, some (.long l4), none] [] (n, sl, f) Q) : mi_W d 179 274 [some (.ref l1), some (.int l2), some (.long l3), none, some (.long l4), none] [] (n, sl, f) Q := by
  refine w_lload_n cd_179_274 rfl ?_
  refine w_lload cd_179_275 rfl ?_
  refine w_lcmp cd_179_277 ?_
  exact w_ifge cd_179_278 (by decide) h5 h6
theorem b_179_281 {d : Nat} {Q : (Option Value ⊕ Nat) → mi_H → Prop} (n sl : Nat) (f : Nat → mi_C) {l1 : Nat} {l2 : Int32} {l3 : Int64} {l4 : Int64} (h5 : mi_W d 179 301 [some (.ref l1), some (.int l2), some (.long l3), none, some (.long l4), none] [.int 1] (n, sl, f) Q) : mi_W d 179 281 [some (.ref l1), some (.int l2), some (.long l3), none, some (.long l4), none] [] (n, sl, f) Q := by
  refine w_iconst (v := 1) cd_179_281 (by decide) ?_
  exact w_goto cd_179_282 (by decide) h5
theorem b_179_285 {d : Nat} {Q : (Option Value ⊕ Nat) → mi_H → Prop} (n sl : Nat) (f : Nat → mi_C) {l1 : Nat} {l2 : Int32} {l3 : Int64} {l4 : Int64} (h5 : mi_W d 179 301 [some (.ref l1), some (.int l2), some (.long l3), none, some (.long l4), none] [.int 0] (n, sl, f) Q) : mi_W d 179 285 [some (.ref l1), some (.int l2), some (.long l3), none, some (.long l4), none] [] (n, sl, f) Q := by
  refine w_iconst (v := 0) cd_179_285 (by decide) ?_
  exact w_goto cd_179_286 (by decide) h5
theorem b_179_289 {d : Nat} {Q : (Option Value ⊕ Nat) → mi_H → Prop} (n sl : Nat) (f : Nat → mi_C) {l1 : Nat} {l2 : Int32} {l3 : Int64} {l4 : Int64} (h5 : ¬ (lg_cmp l3 l4) = (0 : Int32) → mi_W d 179 300 [some (.ref l1), some (.int l2), some (.long l3), none, some (.long l4), none] [] (n, sl, f) Q) (h6 : ¬ (¬ (lg_cmp l3 l4) = (0 : Int32)) → mi_W d 179 296 [some (.ref l1), some (.int l2), some (.long l3), none, some (.long l4), none] [] (n, sl, f) Q) : mi_W d 179 289 [some (.ref l1), some (.int l2), some (.long l3), none, some (.long l4), none] [] (n, sl, f) Q := by
  refine w_lload_n cd_179_289 rfl ?_
  refine w_lload cd_179_290 rfl ?_
  refine w_lcmp cd_179_292 ?_
  exact w_ifne cd_179_293 (by decide) h5 h6
theorem b_179_296 {d : Nat} {Q : (Option Value ⊕ Nat) → mi_H → Prop} (n sl : Nat) (f : Nat → mi_C) {l1 : Nat} {l2 : Int32} {l3 : Int64} {l4 : Int64} (h5 : mi_W d 179 301 [some (.ref l1), some (.int l2), some (.long l3), none, some (.long l4), none] [.int 1] (n, sl, f) Q) : mi_W d 179 296 [some (.ref l1), some (.int l2), some (.long l3), none, some (.long l4), none] [] (n, sl, f) Q := by
  refine w_iconst (v := 1) cd_179_296 (by decide) ?_
  exact w_goto cd_179_297 (by decide) h5
theorem b_179_300 {d : Nat} {Q : (Option Value ⊕ Nat) → mi_H → Prop} (n sl : Nat) (f : Nat → mi_C) {l1 : Nat} {l2 : Int32} {l3 : Int64} {l4 : Int64} (h5 : mi_W d 179 301 [some (.ref l1), some (.int l2), some (.long l3), none, some (.long l4), none] [.int 0] (n, sl, f) Q) : mi_W d 179 300 [some (.ref l1), some (.int l2), some (.long l3), none, some (.long l4), none] [] (n, sl, f) Q := by
  refine w_iconst (v := 0) cd_179_300 (by decide) ?_
  exact h5
theorem b_179_301 {d : Nat} {Q : (Option Value ⊕ Nat) → mi_H → Prop} (n sl : Nat) (f : Nat → mi_C) {l1 : Nat} {l2 : Int32} {l3 : Int64} {l4 : Int64} {s5 : Int32} (h6 : s5 = 0 ∨ s5 = 1) (h7 : Q (.inl (some (.int s5))) (n, sl, f)) : mi_W d 179 301 [some (.ref l1), some (.int l2), some (.long l3), none, some (.long l4), none] [.int s5] (n, sl, f) Q := by
  exact w_ireturn_z cd_179_301 (by decide +kernel) h6 h7
/-! MarloweHostModel.two(IJJ)J -/
set_option maxRecDepth 100000 in
theorem mq_180 : mt_q 180 = my_180 := rfl
set_option maxRecDepth 100000 in
theorem ci_180 : mt_inc 0 my_180.cd = true := by decide +kernel
theorem cd_180_0 : mt_cd 180 0 = some (.aload_n 0) := mt_cd_of (q := (0, .aload_n 0, 1)) mq_180 ci_180 (List.mem_of_getElem? (i := 0) rfl)
theorem cd_180_1 : mt_cd 180 1 = some (.getfield 441) := mt_cd_of (q := (1, .getfield 441, 3)) mq_180 ci_180 (List.mem_of_getElem? (i := 1) rfl)
theorem cd_180_4 : mt_cd 180 4 = some (.ifCond .eq 5) := mt_cd_of (q := (4, .ifCond .eq 5, 3)) mq_180 ci_180 (List.mem_of_getElem? (i := 2) rfl)
theorem cd_180_7 : mt_cd 180 7 = some (.lconst 0) := mt_cd_of (q := (7, .lconst 0, 1)) mq_180 ci_180 (List.mem_of_getElem? (i := 3) rfl)
theorem cd_180_8 : mt_cd 180 8 = some (.lreturn) := mt_cd_of (q := (8, .lreturn, 1)) mq_180 ci_180 (List.mem_of_getElem? (i := 4) rfl)
theorem cd_180_9 : mt_cd 180 9 = some (.iload_n 1) := mt_cd_of (q := (9, .iload_n 1, 1)) mq_180 ci_180 (List.mem_of_getElem? (i := 5) rfl)
theorem cd_180_10 : mt_cd 180 10 = some (.bipush 13) := mt_cd_of (q := (10, .bipush 13, 2)) mq_180 ci_180 (List.mem_of_getElem? (i := 6) rfl)
theorem cd_180_12 : mt_cd 180 12 = some (.if_icmp .eq 9) := mt_cd_of (q := (12, .if_icmp .eq 9, 3)) mq_180 ci_180 (List.mem_of_getElem? (i := 7) rfl)
theorem cd_180_15 : mt_cd 180 15 = some (.iload_n 1) := mt_cd_of (q := (15, .iload_n 1, 1)) mq_180 ci_180 (List.mem_of_getElem? (i := 8) rfl)
theorem cd_180_16 : mt_cd 180 16 = some (.bipush 14) := mt_cd_of (q := (16, .bipush 14, 2)) mq_180 ci_180 (List.mem_of_getElem? (i := 9) rfl)
theorem cd_180_18 : mt_cd 180 18 = some (.if_icmp .ne 89) := mt_cd_of (q := (18, .if_icmp .ne 89, 3)) mq_180 ci_180 (List.mem_of_getElem? (i := 10) rfl)
theorem cd_180_21 : mt_cd 180 21 = some (.iload_n 1) := mt_cd_of (q := (21, .iload_n 1, 1)) mq_180 ci_180 (List.mem_of_getElem? (i := 11) rfl)
theorem cd_180_22 : mt_cd 180 22 = some (.bipush 13) := mt_cd_of (q := (22, .bipush 13, 2)) mq_180 ci_180 (List.mem_of_getElem? (i := 12) rfl)
theorem cd_180_24 : mt_cd 180 24 = some (.if_icmp .ne 10) := mt_cd_of (q := (24, .if_icmp .ne 10, 3)) mq_180 ci_180 (List.mem_of_getElem? (i := 13) rfl)
theorem cd_180_27 : mt_cd 180 27 = some (.lload_n 2) := mt_cd_of (q := (27, .lload_n 2, 1)) mq_180 ci_180 (List.mem_of_getElem? (i := 14) rfl)
theorem cd_180_28 : mt_cd 180 28 = some (.lload 4) := mt_cd_of (q := (28, .lload 4, 2)) mq_180 ci_180 (List.mem_of_getElem? (i := 15) rfl)
theorem cd_180_30 : mt_cd 180 30 = some (.ladd) := mt_cd_of (q := (30, .ladd, 1)) mq_180 ci_180 (List.mem_of_getElem? (i := 16) rfl)
theorem cd_180_31 : mt_cd 180 31 = some (.goto 7) := mt_cd_of (q := (31, .goto 7, 3)) mq_180 ci_180 (List.mem_of_getElem? (i := 17) rfl)
theorem cd_180_34 : mt_cd 180 34 = some (.lload_n 2) := mt_cd_of (q := (34, .lload_n 2, 1)) mq_180 ci_180 (List.mem_of_getElem? (i := 18) rfl)
theorem cd_180_35 : mt_cd 180 35 = some (.lload 4) := mt_cd_of (q := (35, .lload 4, 2)) mq_180 ci_180 (List.mem_of_getElem? (i := 19) rfl)
theorem cd_180_37 : mt_cd 180 37 = some (.lsub) := mt_cd_of (q := (37, .lsub, 1)) mq_180 ci_180 (List.mem_of_getElem? (i := 20) rfl)
theorem cd_180_38 : mt_cd 180 38 = some (.lstore 6) := mt_cd_of (q := (38, .lstore 6, 2)) mq_180 ci_180 (List.mem_of_getElem? (i := 21) rfl)
theorem cd_180_40 : mt_cd 180 40 = some (.iload_n 1) := mt_cd_of (q := (40, .iload_n 1, 1)) mq_180 ci_180 (List.mem_of_getElem? (i := 22) rfl)
theorem cd_180_41 : mt_cd 180 41 = some (.bipush 13) := mt_cd_of (q := (41, .bipush 13, 2)) mq_180 ci_180 (List.mem_of_getElem? (i := 23) rfl)
theorem cd_180_43 : mt_cd 180 43 = some (.if_icmp .ne 26) := mt_cd_of (q := (43, .if_icmp .ne 26, 3)) mq_180 ci_180 (List.mem_of_getElem? (i := 24) rfl)
theorem cd_180_46 : mt_cd 180 46 = some (.lload_n 2) := mt_cd_of (q := (46, .lload_n 2, 1)) mq_180 ci_180 (List.mem_of_getElem? (i := 25) rfl)
theorem cd_180_47 : mt_cd 180 47 = some (.lload 6) := mt_cd_of (q := (47, .lload 6, 2)) mq_180 ci_180 (List.mem_of_getElem? (i := 26) rfl)
theorem cd_180_49 : mt_cd 180 49 = some (.lxor) := mt_cd_of (q := (49, .lxor, 1)) mq_180 ci_180 (List.mem_of_getElem? (i := 27) rfl)
theorem cd_180_50 : mt_cd 180 50 = some (.lload 4) := mt_cd_of (q := (50, .lload 4, 2)) mq_180 ci_180 (List.mem_of_getElem? (i := 28) rfl)
theorem cd_180_52 : mt_cd 180 52 = some (.lload 6) := mt_cd_of (q := (52, .lload 6, 2)) mq_180 ci_180 (List.mem_of_getElem? (i := 29) rfl)
theorem cd_180_54 : mt_cd 180 54 = some (.lxor) := mt_cd_of (q := (54, .lxor, 1)) mq_180 ci_180 (List.mem_of_getElem? (i := 30) rfl)
theorem cd_180_55 : mt_cd 180 55 = some (.land) := mt_cd_of (q := (55, .land, 1)) mq_180 ci_180 (List.mem_of_getElem? (i := 31) rfl)
theorem cd_180_56 : mt_cd 180 56 = some (.lconst 0) := mt_cd_of (q := (56, .lconst 0, 1)) mq_180 ci_180 (List.mem_of_getElem? (i := 32) rfl)
theorem cd_180_57 : mt_cd 180 57 = some (.lcmp) := mt_cd_of (q := (57, .lcmp, 1)) mq_180 ci_180 (List.mem_of_getElem? (i := 33) rfl)
theorem cd_180_58 : mt_cd 180 58 = some (.ifCond .ge 7) := mt_cd_of (q := (58, .ifCond .ge 7, 3)) mq_180 ci_180 (List.mem_of_getElem? (i := 34) rfl)
theorem cd_180_61 : mt_cd 180 61 = some (.iconst 1) := mt_cd_of (q := (61, .iconst 1, 1)) mq_180 ci_180 (List.mem_of_getElem? (i := 35) rfl)
theorem cd_180_62 : mt_cd 180 62 = some (.goto 26) := mt_cd_of (q := (62, .goto 26, 3)) mq_180 ci_180 (List.mem_of_getElem? (i := 36) rfl)
theorem cd_180_65 : mt_cd 180 65 = some (.iconst 0) := mt_cd_of (q := (65, .iconst 0, 1)) mq_180 ci_180 (List.mem_of_getElem? (i := 37) rfl)
theorem cd_180_66 : mt_cd 180 66 = some (.goto 22) := mt_cd_of (q := (66, .goto 22, 3)) mq_180 ci_180 (List.mem_of_getElem? (i := 38) rfl)
theorem cd_180_69 : mt_cd 180 69 = some (.lload_n 2) := mt_cd_of (q := (69, .lload_n 2, 1)) mq_180 ci_180 (List.mem_of_getElem? (i := 39) rfl)
theorem cd_180_70 : mt_cd 180 70 = some (.lload 4) := mt_cd_of (q := (70, .lload 4, 2)) mq_180 ci_180 (List.mem_of_getElem? (i := 40) rfl)
theorem cd_180_72 : mt_cd 180 72 = some (.lxor) := mt_cd_of (q := (72, .lxor, 1)) mq_180 ci_180 (List.mem_of_getElem? (i := 41) rfl)
theorem cd_180_73 : mt_cd 180 73 = some (.lload_n 2) := mt_cd_of (q := (73, .lload_n 2, 1)) mq_180 ci_180 (List.mem_of_getElem? (i := 42) rfl)
theorem cd_180_74 : mt_cd 180 74 = some (.lload 6) := mt_cd_of (q := (74, .lload 6, 2)) mq_180 ci_180 (List.mem_of_getElem? (i := 43) rfl)
theorem cd_180_76 : mt_cd 180 76 = some (.lxor) := mt_cd_of (q := (76, .lxor, 1)) mq_180 ci_180 (List.mem_of_getElem? (i := 44) rfl)
theorem cd_180_77 : mt_cd 180 77 = some (.land) := mt_cd_of (q := (77, .land, 1)) mq_180 ci_180 (List.mem_of_getElem? (i := 45) rfl)
theorem cd_180_78 : mt_cd 180 78 = some (.lconst 0) := mt_cd_of (q := (78, .lconst 0, 1)) mq_180 ci_180 (List.mem_of_getElem? (i := 46) rfl)
theorem cd_180_79 : mt_cd 180 79 = some (.lcmp) := mt_cd_of (q := (79, .lcmp, 1)) mq_180 ci_180 (List.mem_of_getElem? (i := 47) rfl)
theorem cd_180_80 : mt_cd 180 80 = some (.ifCond .ge 7) := mt_cd_of (q := (80, .ifCond .ge 7, 3)) mq_180 ci_180 (List.mem_of_getElem? (i := 48) rfl)
theorem cd_180_83 : mt_cd 180 83 = some (.iconst 1) := mt_cd_of (q := (83, .iconst 1, 1)) mq_180 ci_180 (List.mem_of_getElem? (i := 49) rfl)
theorem cd_180_84 : mt_cd 180 84 = some (.goto 4) := mt_cd_of (q := (84, .goto 4, 3)) mq_180 ci_180 (List.mem_of_getElem? (i := 50) rfl)
theorem cd_180_87 : mt_cd 180 87 = some (.iconst 0) := mt_cd_of (q := (87, .iconst 0, 1)) mq_180 ci_180 (List.mem_of_getElem? (i := 51) rfl)
theorem cd_180_88 : mt_cd 180 88 = some (.istore 8) := mt_cd_of (q := (88, .istore 8, 2)) mq_180 ci_180 (List.mem_of_getElem? (i := 52) rfl)
theorem cd_180_90 : mt_cd 180 90 = some (.iload 8) := mt_cd_of (q := (90, .iload 8, 2)) mq_180 ci_180 (List.mem_of_getElem? (i := 53) rfl)
theorem cd_180_92 : mt_cd 180 92 = some (.ifCond .eq 8) := mt_cd_of (q := (92, .ifCond .eq 8, 3)) mq_180 ci_180 (List.mem_of_getElem? (i := 54) rfl)
theorem cd_180_95 : mt_cd 180 95 = some (.aload_n 0) := mt_cd_of (q := (95, .aload_n 0, 1)) mq_180 ci_180 (List.mem_of_getElem? (i := 55) rfl)
theorem cd_180_96 : mt_cd 180 96 = some (.iconst 1) := mt_cd_of (q := (96, .iconst 1, 1)) mq_180 ci_180 (List.mem_of_getElem? (i := 56) rfl)
theorem cd_180_97 : mt_cd 180 97 = some (.putfield 441) := mt_cd_of (q := (97, .putfield 441, 3)) mq_180 ci_180 (List.mem_of_getElem? (i := 57) rfl)
theorem cd_180_100 : mt_cd 180 100 = some (.aload_n 0) := mt_cd_of (q := (100, .aload_n 0, 1)) mq_180 ci_180 (List.mem_of_getElem? (i := 58) rfl)
theorem cd_180_101 : mt_cd 180 101 = some (.lload 6) := mt_cd_of (q := (101, .lload 6, 2)) mq_180 ci_180 (List.mem_of_getElem? (i := 59) rfl)
theorem cd_180_103 : mt_cd 180 103 = some (.invokevirtual 455) := mt_cd_of (q := (103, .invokevirtual 455, 3)) mq_180 ci_180 (List.mem_of_getElem? (i := 60) rfl)
theorem cd_180_106 : mt_cd 180 106 = some (.lreturn) := mt_cd_of (q := (106, .lreturn, 1)) mq_180 ci_180 (List.mem_of_getElem? (i := 61) rfl)
theorem cd_180_107 : mt_cd 180 107 = some (.iload_n 1) := mt_cd_of (q := (107, .iload_n 1, 1)) mq_180 ci_180 (List.mem_of_getElem? (i := 62) rfl)
theorem cd_180_108 : mt_cd 180 108 = some (.bipush 16) := mt_cd_of (q := (108, .bipush 16, 2)) mq_180 ci_180 (List.mem_of_getElem? (i := 63) rfl)
theorem cd_180_110 : mt_cd 180 110 = some (.if_icmp .ne 23) := mt_cd_of (q := (110, .if_icmp .ne 23, 3)) mq_180 ci_180 (List.mem_of_getElem? (i := 64) rfl)
theorem cd_180_113 : mt_cd 180 113 = some (.lload 4) := mt_cd_of (q := (113, .lload 4, 2)) mq_180 ci_180 (List.mem_of_getElem? (i := 65) rfl)
theorem cd_180_115 : mt_cd 180 115 = some (.lconst 0) := mt_cd_of (q := (115, .lconst 0, 1)) mq_180 ci_180 (List.mem_of_getElem? (i := 66) rfl)
theorem cd_180_116 : mt_cd 180 116 = some (.lcmp) := mt_cd_of (q := (116, .lcmp, 1)) mq_180 ci_180 (List.mem_of_getElem? (i := 67) rfl)
theorem cd_180_117 : mt_cd 180 117 = some (.ifCond .ne 7) := mt_cd_of (q := (117, .ifCond .ne 7, 3)) mq_180 ci_180 (List.mem_of_getElem? (i := 68) rfl)
theorem cd_180_120 : mt_cd 180 120 = some (.lconst 0) := mt_cd_of (q := (120, .lconst 0, 1)) mq_180 ci_180 (List.mem_of_getElem? (i := 69) rfl)
theorem cd_180_121 : mt_cd 180 121 = some (.goto 11) := mt_cd_of (q := (121, .goto 11, 3)) mq_180 ci_180 (List.mem_of_getElem? (i := 70) rfl)
theorem cd_180_124 : mt_cd 180 124 = some (.aload_n 0) := mt_cd_of (q := (124, .aload_n 0, 1)) mq_180 ci_180 (List.mem_of_getElem? (i := 71) rfl)
theorem cd_180_125 : mt_cd 180 125 = some (.lload_n 2) := mt_cd_of (q := (125, .lload_n 2, 1)) mq_180 ci_180 (List.mem_of_getElem? (i := 72) rfl)
theorem cd_180_126 : mt_cd 180 126 = some (.lload 4) := mt_cd_of (q := (126, .lload 4, 2)) mq_180 ci_180 (List.mem_of_getElem? (i := 73) rfl)
theorem cd_180_128 : mt_cd 180 128 = some (.ldiv) := mt_cd_of (q := (128, .ldiv, 1)) mq_180 ci_180 (List.mem_of_getElem? (i := 74) rfl)
theorem cd_180_129 : mt_cd 180 129 = some (.invokevirtual 455) := mt_cd_of (q := (129, .invokevirtual 455, 3)) mq_180 ci_180 (List.mem_of_getElem? (i := 75) rfl)
theorem cd_180_132 : mt_cd 180 132 = some (.lreturn) := mt_cd_of (q := (132, .lreturn, 1)) mq_180 ci_180 (List.mem_of_getElem? (i := 76) rfl)
theorem cd_180_133 : mt_cd 180 133 = some (.lload_n 2) := mt_cd_of (q := (133, .lload_n 2, 1)) mq_180 ci_180 (List.mem_of_getElem? (i := 77) rfl)
theorem cd_180_134 : mt_cd 180 134 = some (.lload 4) := mt_cd_of (q := (134, .lload 4, 2)) mq_180 ci_180 (List.mem_of_getElem? (i := 78) rfl)
theorem cd_180_136 : mt_cd 180 136 = some (.lmul) := mt_cd_of (q := (136, .lmul, 1)) mq_180 ci_180 (List.mem_of_getElem? (i := 79) rfl)
theorem cd_180_137 : mt_cd 180 137 = some (.lstore 6) := mt_cd_of (q := (137, .lstore 6, 2)) mq_180 ci_180 (List.mem_of_getElem? (i := 80) rfl)
theorem cd_180_139 : mt_cd 180 139 = some (.lload_n 2) := mt_cd_of (q := (139, .lload_n 2, 1)) mq_180 ci_180 (List.mem_of_getElem? (i := 81) rfl)
theorem cd_180_140 : mt_cd 180 140 = some (.lload 4) := mt_cd_of (q := (140, .lload 4, 2)) mq_180 ci_180 (List.mem_of_getElem? (i := 82) rfl)
theorem cd_180_142 : mt_cd 180 142 = some (.invokestatic 484) := mt_cd_of (q := (142, .invokestatic 484, 3)) mq_180 ci_180 (List.mem_of_getElem? (i := 83) rfl)
theorem cd_180_145 : mt_cd 180 145 = some (.lload 6) := mt_cd_of (q := (145, .lload 6, 2)) mq_180 ci_180 (List.mem_of_getElem? (i := 84) rfl)
theorem cd_180_147 : mt_cd 180 147 = some (.bipush 63) := mt_cd_of (q := (147, .bipush 63, 2)) mq_180 ci_180 (List.mem_of_getElem? (i := 85) rfl)
theorem cd_180_149 : mt_cd 180 149 = some (.lshr) := mt_cd_of (q := (149, .lshr, 1)) mq_180 ci_180 (List.mem_of_getElem? (i := 86) rfl)
theorem cd_180_150 : mt_cd 180 150 = some (.lcmp) := mt_cd_of (q := (150, .lcmp, 1)) mq_180 ci_180 (List.mem_of_getElem? (i := 87) rfl)
theorem cd_180_151 : mt_cd 180 151 = some (.ifCond .eq 8) := mt_cd_of (q := (151, .ifCond .eq 8, 3)) mq_180 ci_180 (List.mem_of_getElem? (i := 88) rfl)
theorem cd_180_154 : mt_cd 180 154 = some (.aload_n 0) := mt_cd_of (q := (154, .aload_n 0, 1)) mq_180 ci_180 (List.mem_of_getElem? (i := 89) rfl)
theorem cd_180_155 : mt_cd 180 155 = some (.iconst 1) := mt_cd_of (q := (155, .iconst 1, 1)) mq_180 ci_180 (List.mem_of_getElem? (i := 90) rfl)
theorem cd_180_156 : mt_cd 180 156 = some (.putfield 441) := mt_cd_of (q := (156, .putfield 441, 3)) mq_180 ci_180 (List.mem_of_getElem? (i := 91) rfl)
theorem cd_180_159 : mt_cd 180 159 = some (.aload_n 0) := mt_cd_of (q := (159, .aload_n 0, 1)) mq_180 ci_180 (List.mem_of_getElem? (i := 92) rfl)
theorem cd_180_160 : mt_cd 180 160 = some (.lload 6) := mt_cd_of (q := (160, .lload 6, 2)) mq_180 ci_180 (List.mem_of_getElem? (i := 93) rfl)
theorem cd_180_162 : mt_cd 180 162 = some (.invokevirtual 455) := mt_cd_of (q := (162, .invokevirtual 455, 3)) mq_180 ci_180 (List.mem_of_getElem? (i := 94) rfl)
theorem cd_180_165 : mt_cd 180 165 = some (.lreturn) := mt_cd_of (q := (165, .lreturn, 1)) mq_180 ci_180 (List.mem_of_getElem? (i := 95) rfl)
theorem b_180_0 {d : Nat} {Q : (Option Value ⊕ Nat) → mi_H → Prop} (n sl : Nat) (f : Nat → mi_C) {l1 : Nat} {l2 : Int32} {l3 : Int64} {l4 : Int64} {o5 : Option Value} {o6 : Option Value} {o7 : Option Value} {fs8 : List Value} {x11 : Int32} (h9 : f l1 = .inr (12, fs8)) (h10 : l1 < n) (h12 : fs8[46]? = some (.int x11)) (h13 : x11 = (0 : Int32) → mi_W d 180 9 [some (.ref l1), some (.int l2), some (.long l3), none, some (.long l4), none, o5, o6, o7] [] (n, sl, f) Q) (h14 : ¬ (x11 = (0 : Int32)) → mi_W d 180 7 [some (.ref l1), some (.int l2), some (.long l3), none, some (.long l4), none, o5, o6, o7] [] (n, sl, f) Q) : mi_W d 180 0 [some (.ref l1), some (.int l2), some (.long l3), none, some (.long l4), none, o5, o6, o7] [] (n, sl, f) Q := by
  refine w_aload_n cd_180_0 rfl ?_
  refine w_getfield cd_180_1 (show mt_f 12 441 = some (12, 46) by decide +kernel) h9 h10 h12 ?_
  exact w_ifeq cd_180_4 (by decide) h13 h14
theorem b_180_7 {d : Nat} {Q : (Option Value ⊕ Nat) → mi_H → Prop} (n sl : Nat) (f : Nat → mi_C) {l1 : Nat} {l2 : Int32} {l3 : Int64} {l4 : Int64} {o5 : Option Value} {o6 : Option Value} {o7 : Option Value} (h8 : Q (.inl (some (.long 0))) (n, sl, f)) : mi_W d 180 7 [some (.ref l1), some (.int l2), some (.long l3), none, some (.long l4), none, o5, o6, o7] [] (n, sl, f) Q := by
  refine w_lconst (lv := 0) cd_180_7 (by decide) ?_
  exact w_lreturn cd_180_8 (by decide +kernel) h8
theorem b_180_9 {d : Nat} {Q : (Option Value ⊕ Nat) → mi_H → Prop} (n sl : Nat) (f : Nat → mi_C) {l1 : Nat} {l2 : Int32} {l3 : Int64} {l4 : Int64} {o5 : Option Value} {o6 : Option Value} {o7 : Option Value} (h8 : l2 = 13 → mi_W d 180 21 [some (.ref l1), some (.int l2), some (.long l3), none, some (.long l4), none, o5, o6, o7] [] (n, sl, f) Q) (h9 : ¬ (l2 = 13) → mi_W d 180 15 [some (.ref l1), some (.int l2), some (.long l3), none, some (.long l4), none, o5, o6, o7] [] (n, sl, f) Q) : mi_W d 180 9 [some (.ref l1), some (.int l2), some (.long l3), none, some (.long l4), none, o5, o6, o7] [] (n, sl, f) Q := by
  refine w_iload_n cd_180_9 rfl ?_
  refine w_bipush (v := 13) cd_180_10 (by decide) ?_
  exact w_if_icmpeq cd_180_12 (by decide) h8 h9
theorem b_180_15 {d : Nat} {Q : (Option Value ⊕ Nat) → mi_H → Prop} (n sl : Nat) (f : Nat → mi_C) {l1 : Nat} {l2 : Int32} {l3 : Int64} {l4 : Int64} {o5 : Option Value} {o6 : Option Value} {o7 : Option Value} (h8 : ¬ l2 = 14 → mi_W d 180 107 [some (.ref l1), some (.int l2), some (.long l3), none, some (.long l4), none, o5, o6, o7] [] (n, sl, f) Q) (h9 : ¬ (¬ l2 = 14) → mi_W d 180 21 [some (.ref l1), some (.int l2), some (.long l3), none, some (.long l4), none, o5, o6, o7] [] (n, sl, f) Q) : mi_W d 180 15 [some (.ref l1), some (.int l2), some (.long l3), none, some (.long l4), none, o5, o6, o7] [] (n, sl, f) Q := by
  refine w_iload_n cd_180_15 rfl ?_
  refine w_bipush (v := 14) cd_180_16 (by decide) ?_
  exact w_if_icmpne cd_180_18 (by decide) h8 h9
theorem b_180_21 {d : Nat} {Q : (Option Value ⊕ Nat) → mi_H → Prop} (n sl : Nat) (f : Nat → mi_C) {l1 : Nat} {l2 : Int32} {l3 : Int64} {l4 : Int64} {o5 : Option Value} {o6 : Option Value} {o7 : Option Value} (h8 : ¬ l2 = 13 → mi_W d 180 34 [some (.ref l1), some (.int l2), some (.long l3), none, some (.long l4), none, o5, o6, o7] [] (n, sl, f) Q) (h9 : ¬ (¬ l2 = 13) → mi_W d 180 27 [some (.ref l1), some (.int l2), some (.long l3), none, some (.long l4), none, o5, o6, o7] [] (n, sl, f) Q) : mi_W d 180 21 [some (.ref l1), some (.int l2), some (.long l3), none, some (.long l4), none, o5, o6, o7] [] (n, sl, f) Q := by
  refine w_iload_n cd_180_21 rfl ?_
  refine w_bipush (v := 13) cd_180_22 (by decide) ?_
  exact w_if_icmpne cd_180_24 (by decide) h8 h9
theorem b_180_27 {d : Nat} {Q : (Option Value ⊕ Nat) → mi_H → Prop} (n sl : Nat) (f : Nat → mi_C) {l1 : Nat} {l2 : Int32} {l3 : Int64} {l4 : Int64} {o5 : Option Value} {o6 : Option Value} {o7 : Option Value} (h8 : mi_W d 180 38 [some (.ref l1), some (.int l2), some (.long l3), none, some (.long l4), none, o5, o6, o7] [.long (l3 + l4)] (n, sl, f) Q) : mi_W d 180 27 [some (.ref l1), some (.int l2), some (.long l3), none, some (.long l4), none, o5, o6, o7] [] (n, sl, f) Q := by
  refine w_lload_n cd_180_27 rfl ?_
  refine w_lload cd_180_28 rfl ?_
  refine w_ladd cd_180_30 ?_
  exact w_goto cd_180_31 (by decide) h8
theorem b_180_34 {d : Nat} {Q : (Option Value ⊕ Nat) → mi_H → Prop} (n sl : Nat) (f : Nat → mi_C) {l1 : Nat} {l2 : Int32} {l3 : Int64} {l4 : Int64} {o5 : Option Value} {o6 : Option Value} {o7 : Option Value} (h8 : mi_W d 180 38 [some (.ref l1), some (.int l2), some (.long l3), none, some (.long l4), none, o5, o6, o7] [.long (l3 - l4)] (n, sl, f) Q) : mi_W d 180 34 [some (.ref l1), some (.int l2), some (.long l3), none, some (.long l4), none, o5, o6, o7] [] (n, sl, f) Q := by
  refine w_lload_n cd_180_34 rfl ?_
  refine w_lload cd_180_35 rfl ?_
  refine w_lsub cd_180_37 ?_
  exact h8
theorem b_180_38 {d : Nat} {Q : (Option Value ⊕ Nat) → mi_H → Prop} (n sl : Nat) (f : Nat → mi_C) {l1 : Nat} {l2 : Int32} {l3 : Int64} {l4 : Int64} {o5 : Option Value} {o6 : Option Value} {o7 : Option Value} {s8 : Int64} (h9 : ¬ l2 = 13 → mi_W d 180 69 [some (.ref l1), some (.int l2), some (.long l3), none, some (.long l4), none, some (.long s8), none, o7] [] (n, sl, f) Q) (h10 : ¬ (¬ l2 = 13) → mi_W d 180 46 [some (.ref l1), some (.int l2), some (.long l3), none, some (.long l4), none, some (.long s8), none, o7] [] (n, sl, f) Q) : mi_W d 180 38 [some (.ref l1), some (.int l2), some (.long l3), none, some (.long l4), none, o5, o6, o7] [.long s8] (n, sl, f) Q := by
  refine w_lstore (ls' := [some (.ref l1), some (.int l2), some (.long l3), none, some (.long l4), none, some (.long s8), none, o7]) cd_180_38 (Nat.le_of_ble_eq_true rfl) rfl ?_
  refine w_iload_n cd_180_40 rfl ?_
  refine w_bipush (v := 13) cd_180_41 (by decide) ?_
  exact w_if_icmpne cd_180_43 (by decide) h9 h10
theorem b_180_46 {d : Nat} {Q : (Option Value ⊕ Nat) → mi_H → Prop} (n sl : Nat) (f : Nat → mi_C) {l1 : Nat} {l2 : Int32} {l3 : Int64} {l4 : Int64} {l5 : Int64} {o6 : Option Value} (h7 : (0 : Int32) ≤ (lg_cmp ((l3 ^^^ l5) &&& (l4 ^^^ l5)) 0) → mi_W d 180 65 [some (.ref l1), some (.int l2), some (.long l3), none, some (.long l4), none, some (.long l5), none, o6] [] (n, sl, f) Q) (h8 : ¬ ((0 : Int32) ≤ (lg_cmp ((l3 ^^^ l5) &&& (l4 ^^^ l5)) 0)) → mi_W d 180 61 [some (.ref l1), some (.int l2), some (.long l3), none, some (.long l4), none, some (.long l5), none, o6] [] (n, sl, f) Q) : mi_W d 180 46 [some (.ref l1), some (.int l2), some (.long l3), none, some (.long l4), none, some (.long l5), none, o6] [] (n, sl, f) Q := by
  refine w_lload_n cd_180_46 rfl ?_
  refine w_lload cd_180_47 rfl ?_
  refine w_lxor cd_180_49 ?_
  refine w_lload cd_180_50 rfl ?_
  refine w_lload cd_180_52 rfl ?_
  refine w_lxor cd_180_54 ?_
  refine w_land cd_180_55 ?_
  refine w_lconst (lv := 0) cd_180_56 (by decide) ?_
  refine w_lcmp cd_180_57 ?_
  exact w_ifge cd_180_58 (by decide) h7 h8
theorem b_180_61 {d : Nat} {Q : (Option Value ⊕ Nat) → mi_H → Prop} (n sl : Nat) (f : Nat → mi_C) {l1 : Nat} {l2 : Int32} {l3 : Int64} {l4 : Int64} {l5 : Int64} {o6 : Option Value} (h7 : mi_W d 180 88 [some (.ref l1), some (.int l2), some (.long l3), none, some (.long l4), none, some (.long l5), none, o6] [.int 1] (n, sl, f) Q) : mi_W d 180 61 [some (.ref l1), some (.int l2), some (.long l3), none, some (.long l4), none, some (.long l5), none, o6] [] (n, sl, f) Q := by
  refine w_iconst (v := 1) cd_180_61 (by decide) ?_
  exact w_goto cd_180_62 (by decide) h7
theorem b_180_65 {d : Nat} {Q : (Option Value ⊕ Nat) → mi_H → Prop} (n sl : Nat) (f : Nat → mi_C) {l1 : Nat} {l2 : Int32} {l3 : Int64} {l4 : Int64} {l5 : Int64} {o6 : Option Value} (h7 : mi_W d 180 88 [some (.ref l1), some (.int l2), some (.long l3), none, some (.long l4), none, some (.long l5), none, o6] [.int 0] (n, sl, f) Q) : mi_W d 180 65 [some (.ref l1), some (.int l2), some (.long l3), none, some (.long l4), none, some (.long l5), none, o6] [] (n, sl, f) Q := by
  refine w_iconst (v := 0) cd_180_65 (by decide) ?_
  exact w_goto cd_180_66 (by decide) h7
theorem b_180_69 {d : Nat} {Q : (Option Value ⊕ Nat) → mi_H → Prop} (n sl : Nat) (f : Nat → mi_C) {l1 : Nat} {l2 : Int32} {l3 : Int64} {l4 : Int64} {l5 : Int64} {o6 : Option Value} (h7 : (0 : Int32) ≤ (lg_cmp ((l3 ^^^ l4) &&& (l3 ^^^ l5)) 0) → mi_W d 180 87 [some (.ref l1), some (.int l2), some (.long l3), none, some (.long l4), none, some (.long l5), none, o6] [] (n, sl, f) Q) (h8 : ¬ ((0 : Int32) ≤ (lg_cmp ((l3 ^^^ l4) &&& (l3 ^^^ l5)) 0)) → mi_W d 180 83 [some (.ref l1), some (.int l2), some (.long l3), none, some (.long l4), none, some (.long l5), none, o6] [] (n, sl, f) Q) : mi_W d 180 69 [some (.ref l1), some (.int l2), some (.long l3), none, some (.long l4), none, some (.long l5), none, o6] [] (n, sl, f) Q := by
  refine w_lload_n cd_180_69 rfl ?_
  refine w_lload cd_180_70 rfl ?_
  refine w_lxor cd_180_72 ?_
  refine w_lload_n cd_180_73 rfl ?_
  refine w_lload cd_180_74 rfl ?_
  refine w_lxor cd_180_76 ?_
  refine w_land cd_180_77 ?_
  refine w_lconst (lv := 0) cd_180_78 (by decide) ?_
  refine w_lcmp cd_180_79 ?_
  exact w_ifge cd_180_80 (by decide) h7 h8
theorem b_180_83 {d : Nat} {Q : (Option Value ⊕ Nat) → mi_H → Prop} (n sl : Nat) (f : Nat → mi_C) {l1 : Nat} {l2 : Int32} {l3 : Int64} {l4 : Int64} {l5 : Int64} {o6 : Option Value} (h7 : mi_W d 180 88 [some (.ref l1), some (.int l2), some (.long l3), none, some (.long l4), none, some (.long l5), none, o6] [.int 1] (n, sl, f) Q) : mi_W d 180 83 [some (.ref l1), some (.int l2), some (.long l3), none, some (.long l4), none, some (.long l5), none, o6] [] (n, sl, f) Q := by
  refine w_iconst (v := 1) cd_180_83 (by decide) ?_
  exact w_goto cd_180_84 (by decide) h7
theorem b_180_87 {d : Nat} {Q : (Option Value ⊕ Nat) → mi_H → Prop} (n sl : Nat) (f : Nat → mi_C) {l1 : Nat} {l2 : Int32} {l3 : Int64} {l4 : Int64} {l5 : Int64} {o6 : Option Value} (h7 : mi_W d 180 88 [some (.ref l1), some (.int l2), some (.long l3), none, some (.long l4), none, some (.long l5), none, o6] [.int 0] (n, sl, f) Q) : mi_W d 180 87 [some (.ref l1), some (.int l2), some (.long l3), none, some (.long l4), none, some (.long l5), none, o6] [] (n, sl, f) Q := by
  refine w_iconst (v := 0) cd_180_87 (by decide) ?_
  exact h7
theorem b_180_88 {d : Nat} {Q : (Option Value ⊕ Nat) → mi_H → Prop} (n sl : Nat) (f : Nat → mi_C) {l1 : Nat} {l2 : Int32} {l3 : Int64} {l4 : Int64} {l5 : Int64} {o6 : Option Value} {s7 : Int32} (h8 : s7 = (0 : Int32) → mi_W d 180 100 [some (.ref l1), some (.int l2), some (.long l3), none, some (.long l4), none, some (.long l5), none, some (.int s7)] [] (n, sl, f) Q) (h9 : ¬ (s7 = (0 : Int32)) → mi_W d 180 95 [some (.ref l1), some (.int l2), some (.long l3), none, some (.long l4), none, some (.long l5), none, some (.int s7)] [] (n, sl, f) Q) : mi_W d 180 88 [some (.ref l1), some (.int l2), some (.long l3), none, some (.long l4), none, some (.long l5), none, o6] [.int s7] (n, sl, f) Q := by
  refine w_istore (ls' := [some (.ref l1), some (.int l2), some (.long l3), none, some (.long l4), none, some (.long l5), none, some (.int s7)]) cd_180_88 (Nat.le_of_ble_eq_true rfl) rfl ?_
  refine w_iload cd_180_90 rfl ?_
  exact w_ifeq cd_180_92 (by decide) h8 h9
theorem b_180_95 {d : Nat} {Q : (Option Value ⊕ Nat) → mi_H → Prop} (n sl : Nat) (f : Nat → mi_C) {l1 : Nat} {l2 : Int32} {l3 : Int64} {l4 : Int64} {l5 : Int64} {l6 : Int32} {fs7 : List Value} (h8 : f l1 = .inr (12, fs7)) (h9 : l1 < n) (h10 : 46 < fs7.length) (h11 : mi_fk .boolean (.int 1) = true) (h12 : mi_W d 180 100 [some (.ref l1), some (.int l2), some (.long l3), none, some (.long l4), none, some (.long l5), none, some (.int l6)] [] (n, sl, (va_up f l1 (.inr (12, fs7.set 46 (.int 1))))) Q) : mi_W d 180 95 [some (.ref l1), some (.int l2), some (.long l3), none, some (.long l4), none, some (.long l5), none, some (.int l6)] [] (n, sl, f) Q := by
  refine w_aload_n cd_180_95 rfl ?_
  refine w_iconst (v := 1) cd_180_96 (by decide) ?_
  refine w_putfield (w := .int 1) cd_180_97 (show mt_f 12 441 = some (12, 46) by decide +kernel) h8 h9 ⟨h10, h11, Or.inl (by decide)⟩ ?_
  exact h12
theorem b_180_100 {d : Nat} {Q : (Option Value ⊕ Nat) → mi_H → Prop} (n sl : Nat) (f : Nat → mi_C) {l1 : Nat} {l2 : Int32} {l3 : Int64} {l4 : Int64} {l5 : Int64} {l6 : Int32} {fs7 : List Value} (h8 : f l1 = .inr (12, fs7)) (h9 : l1 < n) (h10 : mi_W d 178 0 (mi_en 3 [.ref l1, .long l5]) [] (n, sl, f) (mi_Kc d 180 103 [some (.ref l1), some (.int l2), some (.long l3), none, some (.long l4), none, some (.long l5), none, some (.int l6)] [] Q)) : mi_W (d + 1) 180 100 [some (.ref l1), some (.int l2), some (.long l3), none, some (.long l4), none, some (.long l5), none, some (.int l6)] [] (n, sl, f) Q := by
  refine w_aload_n cd_180_100 rfl ?_
  refine w_lload cd_180_101 rfl ?_
  exact w_invokevirtual cd_180_103 (show mt_m 12 455 = some (178, 0) by decide +kernel) (rest := []) rfl (as := [.ref l1, .long l5]) rfl h8 (Or.inl h9) ⟨Nat.le_of_ble_eq_true rfl, Nat.le_of_ble_eq_true rfl, Nat.le_of_ble_eq_true rfl⟩ h10
theorem b_180_106 {d : Nat} {Q : (Option Value ⊕ Nat) → mi_H → Prop} (n sl : Nat) (f : Nat → mi_C) {l1 : Nat} {l2 : Int32} {l3 : Int64} {l4 : Int64} {l5 : Int64} {l6 : Int32} {s7 : Int64} (h8 : Q (.inl (some (.long s7))) (n, sl, f)) : mi_W d 180 106 [some (.ref l1), some (.int l2), some (.long l3), none, some (.long l4), none, some (.long l5), none, some (.int l6)] [.long s7] (n, sl, f) Q := by
  exact w_lreturn cd_180_106 (by decide +kernel) h8
theorem b_180_107 {d : Nat} {Q : (Option Value ⊕ Nat) → mi_H → Prop} (n sl : Nat) (f : Nat → mi_C) {l1 : Nat} {l2 : Int32} {l3 : Int64} {l4 : Int64} {o5 : Option Value} {o6 : Option Value} {o7 : Option Value} (h8 : ¬ l2 = 16 → mi_W d 180 133 [some (.ref l1), some (.int l2), some (.long l3), none, some (.long l4), none, o5, o6, o7] [] (n, sl, f) Q) (h9 : ¬ (¬ l2 = 16) → mi_W d 180 113 [some (.ref l1), some (.int l2), some (.long l3), none, some (.long l4), none, o5, o6, o7] [] (n, sl, f) Q) : mi_W d 180 107 [some (.ref l1), some (.int l2), some (.long l3), none, some (.long l4), none, o5, o6, o7] [] (n, sl, f) Q := by
  refine w_iload_n cd_180_107 rfl ?_
  refine w_bipush (v := 16) cd_180_108 (by decide) ?_
  exact w_if_icmpne cd_180_110 (by decide) h8 h9
theorem b_180_113 {d : Nat} {Q : (Option Value ⊕ Nat) → mi_H → Prop} (n sl : Nat) (f : Nat → mi_C) {l1 : Nat} {l2 : Int32} {l3 : Int64} {l4 : Int64} {o5 : Option Value} {o6 : Option Value} {o7 : Option Value} (h8 : ¬ (lg_cmp l4 0) = (0 : Int32) → mi_W d 180 124 [some (.ref l1), some (.int l2), some (.long l3), none, some (.long l4), none, o5, o6, o7] [] (n, sl, f) Q) (h9 : ¬ (¬ (lg_cmp l4 0) = (0 : Int32)) → mi_W d 180 120 [some (.ref l1), some (.int l2), some (.long l3), none, some (.long l4), none, o5, o6, o7] [] (n, sl, f) Q) : mi_W d 180 113 [some (.ref l1), some (.int l2), some (.long l3), none, some (.long l4), none, o5, o6, o7] [] (n, sl, f) Q := by
  refine w_lload cd_180_113 rfl ?_
  refine w_lconst (lv := 0) cd_180_115 (by decide) ?_
  refine w_lcmp cd_180_116 ?_
  exact w_ifne cd_180_117 (by decide) h8 h9
theorem b_180_120 {d : Nat} {Q : (Option Value ⊕ Nat) → mi_H → Prop} (n sl : Nat) (f : Nat → mi_C) {l1 : Nat} {l2 : Int32} {l3 : Int64} {l4 : Int64} {o5 : Option Value} {o6 : Option Value} {o7 : Option Value} (h8 : mi_W d 180 132 [some (.ref l1), some (.int l2), some (.long l3), none, some (.long l4), none, o5, o6, o7] [.long 0] (n, sl, f) Q) : mi_W d 180 120 [some (.ref l1), some (.int l2), some (.long l3), none, some (.long l4), none, o5, o6, o7] [] (n, sl, f) Q := by
  refine w_lconst (lv := 0) cd_180_120 (by decide) ?_
  exact w_goto cd_180_121 (by decide) h8
theorem b_180_124 {d : Nat} {Q : (Option Value ⊕ Nat) → mi_H → Prop} (n sl : Nat) (f : Nat → mi_C) {l1 : Nat} {l2 : Int32} {l3 : Int64} {l4 : Int64} {o5 : Option Value} {o6 : Option Value} {o7 : Option Value} {fs9 : List Value} (h8 : ¬ l4 = (0 : Int64)) (h10 : f l1 = .inr (12, fs9)) (h11 : l1 < n) (h12 : mi_W d 178 0 (mi_en 3 [.ref l1, .long (l3 / l4)]) [] (n, sl, f) (mi_Kc d 180 129 [some (.ref l1), some (.int l2), some (.long l3), none, some (.long l4), none, o5, o6, o7] [] Q)) : mi_W (d + 1) 180 124 [some (.ref l1), some (.int l2), some (.long l3), none, some (.long l4), none, o5, o6, o7] [] (n, sl, f) Q := by
  refine w_aload_n cd_180_124 rfl ?_
  refine w_lload_n cd_180_125 rfl ?_
  refine w_lload cd_180_126 rfl ?_
  refine w_ldiv cd_180_128 h8 ?_
  exact w_invokevirtual cd_180_129 (show mt_m 12 455 = some (178, 0) by decide +kernel) (rest := []) rfl (as := [.ref l1, .long (l3 / l4)]) rfl h10 (Or.inl h11) ⟨Nat.le_of_ble_eq_true rfl, Nat.le_of_ble_eq_true rfl, Nat.le_of_ble_eq_true rfl⟩ h12
theorem b_180_132 {d : Nat} {Q : (Option Value ⊕ Nat) → mi_H → Prop} (n sl : Nat) (f : Nat → mi_C) {l1 : Nat} {l2 : Int32} {l3 : Int64} {l4 : Int64} {o5 : Option Value} {o6 : Option Value} {o7 : Option Value} {s8 : Int64} (h9 : Q (.inl (some (.long s8))) (n, sl, f)) : mi_W d 180 132 [some (.ref l1), some (.int l2), some (.long l3), none, some (.long l4), none, o5, o6, o7] [.long s8] (n, sl, f) Q := by
  exact w_lreturn cd_180_132 (by decide +kernel) h9
theorem b_180_133 {d : Nat} {Q : (Option Value ⊕ Nat) → mi_H → Prop} (n sl : Nat) (f : Nat → mi_C) {l1 : Nat} {l2 : Int32} {l3 : Int64} {l4 : Int64} {o5 : Option Value} {o6 : Option Value} {o7 : Option Value} (h8 : mi_W d 181 0 (mi_en 20 [.long l3, .long l4]) [] (n, sl, f) (mi_Kc d 180 142 [some (.ref l1), some (.int l2), some (.long l3), none, some (.long l4), none, some (.long (l3 * l4)), none, o7] [] Q)) : mi_W (d + 1) 180 133 [some (.ref l1), some (.int l2), some (.long l3), none, some (.long l4), none, o5, o6, o7] [] (n, sl, f) Q := by
  refine w_lload_n cd_180_133 rfl ?_
  refine w_lload cd_180_134 rfl ?_
  refine w_lmul cd_180_136 ?_
  refine w_lstore (ls' := [some (.ref l1), some (.int l2), some (.long l3), none, some (.long l4), none, some (.long (l3 * l4)), none, o7]) cd_180_137 (Nat.le_of_ble_eq_true rfl) rfl ?_
  refine w_lload_n cd_180_139 rfl ?_
  refine w_lload cd_180_140 rfl ?_
  exact w_invokestatic cd_180_142 (show mt_m 12 484 = some (181, 4) by decide +kernel) (by decide) (rest := []) rfl (as := [.long l3, .long l4]) rfl ⟨Nat.le_of_ble_eq_true rfl, Nat.le_of_ble_eq_true rfl, Nat.le_of_ble_eq_true rfl⟩ h8
theorem b_180_145 {d : Nat} {Q : (Option Value ⊕ Nat) → mi_H → Prop} (n sl : Nat) (f : Nat → mi_C) {l1 : Nat} {l2 : Int32} {l3 : Int64} {l4 : Int64} {l5 : Int64} {o6 : Option Value} {s7 : Int64} (h8 : (lg_cmp s7 (l5 >>> ((63 : Int32).toInt64 &&& 63))) = (0 : Int32) → mi_W d 180 159 [some (.ref l1), some (.int l2), some (.long l3), none, some (.long l4), none, some (.long l5), none, o6] [] (n, sl, f) Q) (h9 : ¬ ((lg_cmp s7 (l5 >>> ((63 : Int32).toInt64 &&& 63))) = (0 : Int32)) → mi_W d 180 154 [some (.ref l1), some (.int l2), some (.long l3), none, some (.long l4), none, some (.long l5), none, o6] [] (n, sl, f) Q) : mi_W d 180 145 [some (.ref l1), some (.int l2), some (.long l3), none, some (.long l4), none, some (.long l5), none, o6] [.long s7] (n, sl, f) Q := by
  refine w_lload cd_180_145 rfl ?_
  refine w_bipush (v := 63) cd_180_147 (by decide) ?_
  refine w_lshr cd_180_149 ?_
  refine w_lcmp cd_180_150 ?_
  exact w_ifeq cd_180_151 (by decide) h8 h9
theorem b_180_154 {d : Nat} {Q : (Option Value ⊕ Nat) → mi_H → Prop} (n sl : Nat) (f : Nat → mi_C) {l1 : Nat} {l2 : Int32} {l3 : Int64} {l4 : Int64} {l5 : Int64} {o6 : Option Value} {fs7 : List Value} (h8 : f l1 = .inr (12, fs7)) (h9 : l1 < n) (h10 : 46 < fs7.length) (h11 : mi_fk .boolean (.int 1) = true) (h12 : mi_W d 180 159 [some (.ref l1), some (.int l2), some (.long l3), none, some (.long l4), none, some (.long l5), none, o6] [] (n, sl, (va_up f l1 (.inr (12, fs7.set 46 (.int 1))))) Q) : mi_W d 180 154 [some (.ref l1), some (.int l2), some (.long l3), none, some (.long l4), none, some (.long l5), none, o6] [] (n, sl, f) Q := by
  refine w_aload_n cd_180_154 rfl ?_
  refine w_iconst (v := 1) cd_180_155 (by decide) ?_
  refine w_putfield (w := .int 1) cd_180_156 (show mt_f 12 441 = some (12, 46) by decide +kernel) h8 h9 ⟨h10, h11, Or.inl (by decide)⟩ ?_
  exact h12
theorem b_180_159 {d : Nat} {Q : (Option Value ⊕ Nat) → mi_H → Prop} (n sl : Nat) (f : Nat → mi_C) {l1 : Nat} {l2 : Int32} {l3 : Int64} {l4 : Int64} {l5 : Int64} {o6 : Option Value} {fs7 : List Value} (h8 : f l1 = .inr (12, fs7)) (h9 : l1 < n) (h10 : mi_W d 178 0 (mi_en 3 [.ref l1, .long l5]) [] (n, sl, f) (mi_Kc d 180 162 [some (.ref l1), some (.int l2), some (.long l3), none, some (.long l4), none, some (.long l5), none, o6] [] Q)) : mi_W (d + 1) 180 159 [some (.ref l1), some (.int l2), some (.long l3), none, some (.long l4), none, some (.long l5), none, o6] [] (n, sl, f) Q := by
  refine w_aload_n cd_180_159 rfl ?_
  refine w_lload cd_180_160 rfl ?_
  exact w_invokevirtual cd_180_162 (show mt_m 12 455 = some (178, 0) by decide +kernel) (rest := []) rfl (as := [.ref l1, .long l5]) rfl h8 (Or.inl h9) ⟨Nat.le_of_ble_eq_true rfl, Nat.le_of_ble_eq_true rfl, Nat.le_of_ble_eq_true rfl⟩ h10
theorem b_180_165 {d : Nat} {Q : (Option Value ⊕ Nat) → mi_H → Prop} (n sl : Nat) (f : Nat → mi_C) {l1 : Nat} {l2 : Int32} {l3 : Int64} {l4 : Int64} {l5 : Int64} {o6 : Option Value} {s7 : Int64} (h8 : Q (.inl (some (.long s7))) (n, sl, f)) : mi_W d 180 165 [some (.ref l1), some (.int l2), some (.long l3), none, some (.long l4), none, some (.long l5), none, o6] [.long s7] (n, sl, f) Q := by
  exact w_lreturn cd_180_165 (by decide +kernel) h8
/-! MarloweHostModel.warn(II)V -/
set_option maxRecDepth 100000 in
theorem mq_182 : mt_q 182 = my_182 := rfl
set_option maxRecDepth 100000 in
theorem ci_182 : mt_inc 0 my_182.cd = true := by decide +kernel
theorem cd_182_0 : mt_cd 182 0 = some (.aload_n 0) := mt_cd_of (q := (0, .aload_n 0, 1)) mq_182 ci_182 (List.mem_of_getElem? (i := 0) rfl)
theorem cd_182_1 : mt_cd 182 1 = some (.getfield 154) := mt_cd_of (q := (1, .getfield 154, 3)) mq_182 ci_182 (List.mem_of_getElem? (i := 1) rfl)
theorem cd_182_4 : mt_cd 182 4 = some (.aload_n 0) := mt_cd_of (q := (4, .aload_n 0, 1)) mq_182 ci_182 (List.mem_of_getElem? (i := 2) rfl)
theorem cd_182_5 : mt_cd 182 5 = some (.getfield 490) := mt_cd_of (q := (5, .getfield 490, 3)) mq_182 ci_182 (List.mem_of_getElem? (i := 3) rfl)
theorem cd_182_8 : mt_cd 182 8 = some (.iload_n 1) := mt_cd_of (q := (8, .iload_n 1, 1)) mq_182 ci_182 (List.mem_of_getElem? (i := 4) rfl)
theorem cd_182_9 : mt_cd 182 9 = some (.iastore) := mt_cd_of (q := (9, .iastore, 1)) mq_182 ci_182 (List.mem_of_getElem? (i := 5) rfl)
theorem cd_182_10 : mt_cd 182 10 = some (.aload_n 0) := mt_cd_of (q := (10, .aload_n 0, 1)) mq_182 ci_182 (List.mem_of_getElem? (i := 6) rfl)
theorem cd_182_11 : mt_cd 182 11 = some (.getfield 157) := mt_cd_of (q := (11, .getfield 157, 3)) mq_182 ci_182 (List.mem_of_getElem? (i := 7) rfl)
theorem cd_182_14 : mt_cd 182 14 = some (.aload_n 0) := mt_cd_of (q := (14, .aload_n 0, 1)) mq_182 ci_182 (List.mem_of_getElem? (i := 8) rfl)
theorem cd_182_15 : mt_cd 182 15 = some (.dup) := mt_cd_of (q := (15, .dup, 1)) mq_182 ci_182 (List.mem_of_getElem? (i := 9) rfl)
theorem cd_182_16 : mt_cd 182 16 = some (.getfield 490) := mt_cd_of (q := (16, .getfield 490, 3)) mq_182 ci_182 (List.mem_of_getElem? (i := 10) rfl)
theorem cd_182_19 : mt_cd 182 19 = some (.dup_x1) := mt_cd_of (q := (19, .dup_x1, 1)) mq_182 ci_182 (List.mem_of_getElem? (i := 11) rfl)
theorem cd_182_20 : mt_cd 182 20 = some (.iconst 1) := mt_cd_of (q := (20, .iconst 1, 1)) mq_182 ci_182 (List.mem_of_getElem? (i := 12) rfl)
theorem cd_182_21 : mt_cd 182 21 = some (.iadd) := mt_cd_of (q := (21, .iadd, 1)) mq_182 ci_182 (List.mem_of_getElem? (i := 13) rfl)
theorem cd_182_22 : mt_cd 182 22 = some (.putfield 490) := mt_cd_of (q := (22, .putfield 490, 3)) mq_182 ci_182 (List.mem_of_getElem? (i := 14) rfl)
theorem cd_182_25 : mt_cd 182 25 = some (.iload_n 2) := mt_cd_of (q := (25, .iload_n 2, 1)) mq_182 ci_182 (List.mem_of_getElem? (i := 15) rfl)
theorem cd_182_26 : mt_cd 182 26 = some (.iastore) := mt_cd_of (q := (26, .iastore, 1)) mq_182 ci_182 (List.mem_of_getElem? (i := 16) rfl)
theorem cd_182_27 : mt_cd 182 27 = some (.return_) := mt_cd_of (q := (27, .return_, 1)) mq_182 ci_182 (List.mem_of_getElem? (i := 17) rfl)
theorem b_182_0 {d : Nat} {Q : (Option Value ⊕ Nat) → mi_H → Prop} (n sl : Nat) (f : Nat → mi_C) {l1 : Nat} {l2 : Int32} {l3 : Int32} {fs4 : List Value} {x7 : Nat} {fs9 : List Value} {x12 : Int32} (m14 i14 : Nat) (g14 : Nat → Int32) {fs18 : List Value} {x21 : Nat} {fs23 : List Value} {x26 : Int32} {fs28 : List Value} (m32 i32 : Nat) (g32 : Nat → Int32) (h5 : f l1 = .inr (12, fs4)) (h6 : l1 < n) (h8 : fs4[49]? = some (.ref x7)) (h10 : f l1 = .inr (12, fs9)) (h11 : l1 < n) (h13 : fs9[47]? = some (.int x12)) (h15 : f x7 = .inl (0, m14, .inl g14)) (h16 : x7 < n) (h17 : mi_ix x12 m14 i14) (h19 : (va_up f x7 (.inl (0, m14, .inl (upd g14 i14 l2)))) l1 = .inr (12, fs18)) (h20 : l1 < n) (h22 : fs18[50]? = some (.ref x21)) (h24 : (va_up f x7 (.inl (0, m14, .inl (upd g14 i14 l2)))) l1 = .inr (12, fs23)) (h25 : l1 < n) (h27 : fs23[47]? = some (.int x26)) (h29 : (va_up f x7 (.inl (0, m14, .inl (upd g14 i14 l2)))) l1 = .inr (12, fs28)) (h30 : l1 < n) (h31 : 47 < fs28.length) (h33 : (va_up (va_up f x7 (.inl (0, m14, .inl (upd g14 i14 l2)))) l1 (.inr (12, fs28.set 47 (.int (x26 + 1))))) x21 = .inl (0, m32, .inl g32)) (h34 : x21 < n) (h35 : mi_ix x26 m32 i32) (h36 : Q (.inl none) (n, sl, (va_up (va_up (va_up f x7 (.inl (0, m14, .inl (upd g14 i14 l2)))) l1 (.inr (12, fs28.set 47 (.int (x26 + 1))))) x21 (.inl (0, m32, .inl (upd g32 i32 l3)))))) : mi_W d 182 0 [some (.ref l1), some (.int l2), some (.int l3)] [] (n, sl, f) Q := by
  refine w_aload_n cd_182_0 rfl ?_
  refine w_getfield cd_182_1 (show mt_f 12 154 = some (12, 49) by decide +kernel) h5 h6 h8 ?_
  refine w_aload_n cd_182_4 rfl ?_
  refine w_getfield cd_182_5 (show mt_f 12 490 = some (12, 47) by decide +kernel) h10 h11 h13 ?_
  refine w_iload_n cd_182_8 rfl ?_
  refine w_iastore cd_182_9 h15 h16 h17 ?_
  refine w_aload_n cd_182_10 rfl ?_
  refine w_getfield cd_182_11 (show mt_f 12 157 = some (12, 50) by decide +kernel) h19 h20 h22 ?_
  refine w_aload_n cd_182_14 rfl ?_
  refine w_dup_r cd_182_15 ?_
  refine w_getfield cd_182_16 (show mt_f 12 490 = some (12, 47) by decide +kernel) h24 h25 h27 ?_
  refine w_dup_x1_ir cd_182_19 ?_
  refine w_iconst (v := 1) cd_182_20 (by decide) ?_
  refine w_iadd cd_182_21 ?_
  refine w_putfield (w := .int (x26 + 1)) cd_182_22 (show mt_f 12 490 = some (12, 47) by decide +kernel) h29 h30 ⟨h31, rfl, Or.inl (by decide)⟩ ?_
  refine w_iload_n cd_182_25 rfl ?_
  refine w_iastore cd_182_26 h33 h34 h35 ?_
  exact w_return cd_182_27 (by decide +kernel) h36
/-! MarloweHostModel.take(I)I -/
set_option maxRecDepth 100000 in
theorem mq_183 : mt_q 183 = my_183 := rfl
set_option maxRecDepth 100000 in
theorem ci_183 : mt_inc 0 my_183.cd = true := by decide +kernel
theorem cd_183_0 : mt_cd 183 0 = some (.aload_n 0) := mt_cd_of (q := (0, .aload_n 0, 1)) mq_183 ci_183 (List.mem_append_left _ (show _ ∈ my_183_0 from List.mem_of_getElem? (i := 0) rfl))
theorem cd_183_1 : mt_cd 183 1 = some (.getfield 445) := mt_cd_of (q := (1, .getfield 445, 3)) mq_183 ci_183 (List.mem_append_left _ (show _ ∈ my_183_0 from List.mem_of_getElem? (i := 1) rfl))
theorem cd_183_4 : mt_cd 183 4 = some (.getfield 496) := mt_cd_of (q := (4, .getfield 496, 3)) mq_183 ci_183 (List.mem_append_left _ (show _ ∈ my_183_0 from List.mem_of_getElem? (i := 2) rfl))
theorem cd_183_7 : mt_cd 183 7 = some (.istore_n 2) := mt_cd_of (q := (7, .istore_n 2, 1)) mq_183 ci_183 (List.mem_append_left _ (show _ ∈ my_183_0 from List.mem_of_getElem? (i := 3) rfl))
theorem cd_183_8 : mt_cd 183 8 = some (.aload_n 0) := mt_cd_of (q := (8, .aload_n 0, 1)) mq_183 ci_183 (List.mem_append_left _ (show _ ∈ my_183_0 from List.mem_of_getElem? (i := 4) rfl))
theorem cd_183_9 : mt_cd 183 9 = some (.getfield 77) := mt_cd_of (q := (9, .getfield 77, 3)) mq_183 ci_183 (List.mem_append_left _ (show _ ∈ my_183_0 from List.mem_of_getElem? (i := 5) rfl))
theorem cd_183_12 : mt_cd 183 12 = some (.iload_n 2) := mt_cd_of (q := (12, .iload_n 2, 1)) mq_183 ci_183 (List.mem_append_left _ (show _ ∈ my_183_0 from List.mem_of_getElem? (i := 6) rfl))
theorem cd_183_13 : mt_cd 183 13 = some (.iaload) := mt_cd_of (q := (13, .iaload, 1)) mq_183 ci_183 (List.mem_append_left _ (show _ ∈ my_183_0 from List.mem_of_getElem? (i := 7) rfl))
theorem cd_183_14 : mt_cd 183 14 = some (.iconst 4) := mt_cd_of (q := (14, .iconst 4, 1)) mq_183 ci_183 (List.mem_append_left _ (show _ ∈ my_183_0 from List.mem_of_getElem? (i := 8) rfl))
theorem cd_183_15 : mt_cd 183 15 = some (.if_icmp .eq 5) := mt_cd_of (q := (15, .if_icmp .eq 5, 3)) mq_183 ci_183 (List.mem_append_left _ (show _ ∈ my_183_0 from List.mem_of_getElem? (i := 9) rfl))
theorem cd_183_18 : mt_cd 183 18 = some (.iconst 4) := mt_cd_of (q := (18, .iconst 4, 1)) mq_183 ci_183 (List.mem_append_left _ (show _ ∈ my_183_0 from List.mem_of_getElem? (i := 10) rfl))
theorem cd_183_19 : mt_cd 183 19 = some (.ireturn) := mt_cd_of (q := (19, .ireturn, 1)) mq_183 ci_183 (List.mem_append_left _ (show _ ∈ my_183_0 from List.mem_of_getElem? (i := 11) rfl))
theorem cd_183_20 : mt_cd 183 20 = some (.aload_n 0) := mt_cd_of (q := (20, .aload_n 0, 1)) mq_183 ci_183 (List.mem_append_left _ (show _ ∈ my_183_0 from List.mem_of_getElem? (i := 12) rfl))
theorem cd_183_21 : mt_cd 183 21 = some (.getfield 92) := mt_cd_of (q := (21, .getfield 92, 3)) mq_183 ci_183 (List.mem_append_left _ (show _ ∈ my_183_0 from List.mem_of_getElem? (i := 13) rfl))
theorem cd_183_24 : mt_cd 183 24 = some (.iload_n 2) := mt_cd_of (q := (24, .iload_n 2, 1)) mq_183 ci_183 (List.mem_append_left _ (show _ ∈ my_183_0 from List.mem_of_getElem? (i := 14) rfl))
theorem cd_183_25 : mt_cd 183 25 = some (.iaload) := mt_cd_of (q := (25, .iaload, 1)) mq_183 ci_183 (List.mem_append_left _ (show _ ∈ my_183_0 from List.mem_of_getElem? (i := 15) rfl))
theorem cd_183_26 : mt_cd 183 26 = some (.istore_n 3) := mt_cd_of (q := (26, .istore_n 3, 1)) mq_183 ci_183 (List.mem_append_left _ (show _ ∈ my_183_0 from List.mem_of_getElem? (i := 16) rfl))
theorem cd_183_27 : mt_cd 183 27 = some (.iload_n 3) := mt_cd_of (q := (27, .iload_n 3, 1)) mq_183 ci_183 (List.mem_append_left _ (show _ ∈ my_183_0 from List.mem_of_getElem? (i := 17) rfl))
theorem cd_183_28 : mt_cd 183 28 = some (.ifCond .lt 264) := mt_cd_of (q := (28, .ifCond .lt 264, 3)) mq_183 ci_183 (List.mem_append_left _ (show _ ∈ my_183_0 from List.mem_of_getElem? (i := 18) rfl))
theorem cd_183_31 : mt_cd 183 31 = some (.aload_n 0) := mt_cd_of (q := (31, .aload_n 0, 1)) mq_183 ci_183 (List.mem_append_left _ (show _ ∈ my_183_0 from List.mem_of_getElem? (i := 19) rfl))
theorem cd_183_32 : mt_cd 183 32 = some (.iload_n 3) := mt_cd_of (q := (32, .iload_n 3, 1)) mq_183 ci_183 (List.mem_append_left _ (show _ ∈ my_183_0 from List.mem_of_getElem? (i := 20) rfl))
theorem cd_183_33 : mt_cd 183 33 = some (.iload_n 1) := mt_cd_of (q := (33, .iload_n 1, 1)) mq_183 ci_183 (List.mem_append_left _ (show _ ∈ my_183_0 from List.mem_of_getElem? (i := 21) rfl))
theorem cd_183_34 : mt_cd 183 34 = some (.invokevirtual 509) := mt_cd_of (q := (34, .invokevirtual 509, 3)) mq_183 ci_183 (List.mem_append_left _ (show _ ∈ my_183_0 from List.mem_of_getElem? (i := 22) rfl))
theorem cd_183_37 : mt_cd 183 37 = some (.istore 4) := mt_cd_of (q := (37, .istore 4, 2)) mq_183 ci_183 (List.mem_append_left _ (show _ ∈ my_183_0 from List.mem_of_getElem? (i := 23) rfl))
theorem cd_183_39 : mt_cd 183 39 = some (.iload 4) := mt_cd_of (q := (39, .iload 4, 2)) mq_183 ci_183 (List.mem_append_left _ (show _ ∈ my_183_0 from List.mem_of_getElem? (i := 24) rfl))
theorem cd_183_41 : mt_cd 183 41 = some (.iconst 1) := mt_cd_of (q := (41, .iconst 1, 1)) mq_183 ci_183 (List.mem_append_left _ (show _ ∈ my_183_0 from List.mem_of_getElem? (i := 25) rfl))
theorem cd_183_42 : mt_cd 183 42 = some (.if_icmp .le 6) := mt_cd_of (q := (42, .if_icmp .le 6, 3)) mq_183 ci_183 (List.mem_append_left _ (show _ ∈ my_183_0 from List.mem_of_getElem? (i := 26) rfl))
theorem cd_183_45 : mt_cd 183 45 = some (.iload 4) := mt_cd_of (q := (45, .iload 4, 2)) mq_183 ci_183 (List.mem_append_left _ (show _ ∈ my_183_0 from List.mem_of_getElem? (i := 27) rfl))
theorem cd_183_47 : mt_cd 183 47 = some (.ireturn) := mt_cd_of (q := (47, .ireturn, 1)) mq_183 ci_183 (List.mem_append_left _ (show _ ∈ my_183_0 from List.mem_of_getElem? (i := 28) rfl))
theorem cd_183_48 : mt_cd 183 48 = some (.iload 4) := mt_cd_of (q := (48, .iload 4, 2)) mq_183 ci_183 (List.mem_append_left _ (show _ ∈ my_183_0 from List.mem_of_getElem? (i := 29) rfl))
theorem cd_183_50 : mt_cd 183 50 = some (.ifCond .ne 6) := mt_cd_of (q := (50, .ifCond .ne 6, 3)) mq_183 ci_183 (List.mem_append_left _ (show _ ∈ my_183_0 from List.mem_of_getElem? (i := 30) rfl))
theorem cd_183_53 : mt_cd 183 53 = some (.goto 229) := mt_cd_of (q := (53, .goto 229, 3)) mq_183 ci_183 (List.mem_append_left _ (show _ ∈ my_183_0 from List.mem_of_getElem? (i := 31) rfl))
theorem cd_183_56 : mt_cd 183 56 = some (.aload_n 0) := mt_cd_of (q := (56, .aload_n 0, 1)) mq_183 ci_183 (List.mem_append_left _ (show _ ∈ my_183_0 from List.mem_of_getElem? (i := 32) rfl))
theorem cd_183_57 : mt_cd 183 57 = some (.getfield 77) := mt_cd_of (q := (57, .getfield 77, 3)) mq_183 ci_183 (List.mem_append_left _ (show _ ∈ my_183_0 from List.mem_of_getElem? (i := 33) rfl))
theorem cd_183_60 : mt_cd 183 60 = some (.iload_n 3) := mt_cd_of (q := (60, .iload_n 3, 1)) mq_183 ci_183 (List.mem_append_left _ (show _ ∈ my_183_0 from List.mem_of_getElem? (i := 34) rfl))
theorem cd_183_61 : mt_cd 183 61 = some (.iaload) := mt_cd_of (q := (61, .iaload, 1)) mq_183 ci_183 (List.mem_append_left _ (show _ ∈ my_183_0 from List.mem_of_getElem? (i := 35) rfl))
theorem cd_183_62 : mt_cd 183 62 = some (.bipush 7) := mt_cd_of (q := (62, .bipush 7, 2)) mq_183 ci_183 (List.mem_append_left _ (show _ ∈ my_183_0 from List.mem_of_getElem? (i := 36) rfl))
theorem cd_183_64 : mt_cd 183 64 = some (.if_icmp .ne 157) := mt_cd_of (q := (64, .if_icmp .ne 157, 3)) mq_183 ci_183 (List.mem_append_left _ (show _ ∈ my_183_0 from List.mem_of_getElem? (i := 37) rfl))
theorem cd_183_67 : mt_cd 183 67 = some (.aload_n 0) := mt_cd_of (q := (67, .aload_n 0, 1)) mq_183 ci_183 (List.mem_append_left _ (show _ ∈ my_183_0 from List.mem_of_getElem? (i := 38) rfl))
theorem cd_183_68 : mt_cd 183 68 = some (.getfield 190) := mt_cd_of (q := (68, .getfield 190, 3)) mq_183 ci_183 (List.mem_append_left _ (show _ ∈ my_183_0 from List.mem_of_getElem? (i := 39) rfl))
theorem cd_183_71 : mt_cd 183 71 = some (.iload_n 1) := mt_cd_of (q := (71, .iload_n 1, 1)) mq_183 ci_183 (List.mem_append_left _ (show _ ∈ my_183_0 from List.mem_of_getElem? (i := 40) rfl))
theorem cd_183_72 : mt_cd 183 72 = some (.laload) := mt_cd_of (q := (72, .laload, 1)) mq_183 ci_183 (List.mem_append_left _ (show _ ∈ my_183_0 from List.mem_of_getElem? (i := 41) rfl))
theorem cd_183_73 : mt_cd 183 73 = some (.lstore 5) := mt_cd_of (q := (73, .lstore 5, 2)) mq_183 ci_183 (List.mem_append_left _ (show _ ∈ my_183_0 from List.mem_of_getElem? (i := 42) rfl))
theorem cd_183_75 : mt_cd 183 75 = some (.iconst 4) := mt_cd_of (q := (75, .iconst 4, 1)) mq_183 ci_183 (List.mem_append_left _ (show _ ∈ my_183_0 from List.mem_of_getElem? (i := 43) rfl))
theorem cd_183_76 : mt_cd 183 76 = some (.aload_n 0) := mt_cd_of (q := (76, .aload_n 0, 1)) mq_183 ci_183 (List.mem_append_left _ (show _ ∈ my_183_0 from List.mem_of_getElem? (i := 44) rfl))
theorem cd_183_77 : mt_cd 183 77 = some (.getfield 80) := mt_cd_of (q := (77, .getfield 80, 3)) mq_183 ci_183 (List.mem_append_left _ (show _ ∈ my_183_0 from List.mem_of_getElem? (i := 45) rfl))
theorem cd_183_80 : mt_cd 183 80 = some (.iload_n 3) := mt_cd_of (q := (80, .iload_n 3, 1)) mq_183 ci_183 (List.mem_append_left _ (show _ ∈ my_183_0 from List.mem_of_getElem? (i := 46) rfl))
theorem cd_183_81 : mt_cd 183 81 = some (.iaload) := mt_cd_of (q := (81, .iaload, 1)) mq_183 ci_183 (List.mem_append_left _ (show _ ∈ my_183_0 from List.mem_of_getElem? (i := 47) rfl))
theorem cd_183_82 : mt_cd 183 82 = some (.imul) := mt_cd_of (q := (82, .imul, 1)) mq_183 ci_183 (List.mem_append_left _ (show _ ∈ my_183_0 from List.mem_of_getElem? (i := 48) rfl))
theorem cd_183_83 : mt_cd 183 83 = some (.aload_n 0) := mt_cd_of (q := (83, .aload_n 0, 1)) mq_183 ci_183 (List.mem_append_left _ (show _ ∈ my_183_0 from List.mem_of_getElem? (i := 49) rfl))
theorem cd_183_84 : mt_cd 183 84 = some (.getfield 86) := mt_cd_of (q := (84, .getfield 86, 3)) mq_183 ci_183 (List.mem_append_left _ (show _ ∈ my_183_0 from List.mem_of_getElem? (i := 50) rfl))
theorem cd_183_87 : mt_cd 183 87 = some (.iload_n 3) := mt_cd_of (q := (87, .iload_n 3, 1)) mq_183 ci_183 (List.mem_append_left _ (show _ ∈ my_183_0 from List.mem_of_getElem? (i := 51) rfl))
theorem cd_183_88 : mt_cd 183 88 = some (.iaload) := mt_cd_of (q := (88, .iaload, 1)) mq_183 ci_183 (List.mem_append_left _ (show _ ∈ my_183_0 from List.mem_of_getElem? (i := 52) rfl))
theorem cd_183_89 : mt_cd 183 89 = some (.iadd) := mt_cd_of (q := (89, .iadd, 1)) mq_183 ci_183 (List.mem_append_left _ (show _ ∈ my_183_0 from List.mem_of_getElem? (i := 53) rfl))
theorem cd_183_90 : mt_cd 183 90 = some (.istore 7) := mt_cd_of (q := (90, .istore 7, 2)) mq_183 ci_183 (List.mem_append_left _ (show _ ∈ my_183_0 from List.mem_of_getElem? (i := 54) rfl))
theorem cd_183_92 : mt_cd 183 92 = some (.iconst 4) := mt_cd_of (q := (92, .iconst 4, 1)) mq_183 ci_183 (List.mem_append_left _ (show _ ∈ my_183_0 from List.mem_of_getElem? (i := 55) rfl))
theorem cd_183_93 : mt_cd 183 93 = some (.aload_n 0) := mt_cd_of (q := (93, .aload_n 0, 1)) mq_183 ci_183 (List.mem_append_left _ (show _ ∈ my_183_0 from List.mem_of_getElem? (i := 56) rfl))
theorem cd_183_94 : mt_cd 183 94 = some (.getfield 83) := mt_cd_of (q := (94, .getfield 83, 3)) mq_183 ci_183 (List.mem_append_left _ (show _ ∈ my_183_0 from List.mem_of_getElem? (i := 57) rfl))
theorem cd_183_97 : mt_cd 183 97 = some (.iload_n 3) := mt_cd_of (q := (97, .iload_n 3, 1)) mq_183 ci_183 (List.mem_append_left _ (show _ ∈ my_183_0 from List.mem_of_getElem? (i := 58) rfl))
theorem cd_183_98 : mt_cd 183 98 = some (.iaload) := mt_cd_of (q := (98, .iaload, 1)) mq_183 ci_183 (List.mem_append_left _ (show _ ∈ my_183_0 from List.mem_of_getElem? (i := 59) rfl))
theorem cd_183_99 : mt_cd 183 99 = some (.imul) := mt_cd_of (q := (99, .imul, 1)) mq_183 ci_183 (List.mem_append_right _ (List.mem_append_left _ (show _ ∈ my_183_1 from List.mem_of_getElem? (i := 0) rfl)))
theorem cd_183_100 : mt_cd 183 100 = some (.aload_n 0) := mt_cd_of (q := (100, .aload_n 0, 1)) mq_183 ci_183 (List.mem_append_right _ (List.mem_append_left _ (show _ ∈ my_183_1 from List.mem_of_getElem? (i := 1) rfl)))
theorem cd_183_101 : mt_cd 183 101 = some (.getfield 86) := mt_cd_of (q := (101, .getfield 86, 3)) mq_183 ci_183 (List.mem_append_right _ (List.mem_append_left _ (show _ ∈ my_183_1 from List.mem_of_getElem? (i := 2) rfl)))
theorem cd_183_104 : mt_cd 183 104 = some (.iload_n 3) := mt_cd_of (q := (104, .iload_n 3, 1)) mq_183 ci_183 (List.mem_append_right _ (List.mem_append_left _ (show _ ∈ my_183_1 from List.mem_of_getElem? (i := 3) rfl)))
theorem cd_183_105 : mt_cd 183 105 = some (.iaload) := mt_cd_of (q := (105, .iaload, 1)) mq_183 ci_183 (List.mem_append_right _ (List.mem_append_left _ (show _ ∈ my_183_1 from List.mem_of_getElem? (i := 4) rfl)))
theorem cd_183_106 : mt_cd 183 106 = some (.iadd) := mt_cd_of (q := (106, .iadd, 1)) mq_183 ci_183 (List.mem_append_right _ (List.mem_append_left _ (show _ ∈ my_183_1 from List.mem_of_getElem? (i := 5) rfl)))
theorem cd_183_107 : mt_cd 183 107 = some (.istore 8) := mt_cd_of (q := (107, .istore 8, 2)) mq_183 ci_183 (List.mem_append_right _ (List.mem_append_left _ (show _ ∈ my_183_1 from List.mem_of_getElem? (i := 6) rfl)))
theorem cd_183_109 : mt_cd 183 109 = some (.lload 5) := mt_cd_of (q := (109, .lload 5, 2)) mq_183 ci_183 (List.mem_append_right _ (List.mem_append_left _ (show _ ∈ my_183_1 from List.mem_of_getElem? (i := 7) rfl)))
theorem cd_183_111 : mt_cd 183 111 = some (.lconst 0) := mt_cd_of (q := (111, .lconst 0, 1)) mq_183 ci_183 (List.mem_append_right _ (List.mem_append_left _ (show _ ∈ my_183_1 from List.mem_of_getElem? (i := 8) rfl)))
theorem cd_183_112 : mt_cd 183 112 = some (.lcmp) := mt_cd_of (q := (112, .lcmp, 1)) mq_183 ci_183 (List.mem_append_right _ (List.mem_append_left _ (show _ ∈ my_183_1 from List.mem_of_getElem? (i := 9) rfl)))
theorem cd_183_113 : mt_cd 183 113 = some (.ifCond .gt 12) := mt_cd_of (q := (113, .ifCond .gt 12, 3)) mq_183 ci_183 (List.mem_append_right _ (List.mem_append_left _ (show _ ∈ my_183_1 from List.mem_of_getElem? (i := 10) rfl)))
theorem cd_183_116 : mt_cd 183 116 = some (.aload_n 0) := mt_cd_of (q := (116, .aload_n 0, 1)) mq_183 ci_183 (List.mem_append_right _ (List.mem_append_left _ (show _ ∈ my_183_1 from List.mem_of_getElem? (i := 11) rfl)))
theorem cd_183_117 : mt_cd 183 117 = some (.iconst 1) := mt_cd_of (q := (117, .iconst 1, 1)) mq_183 ci_183 (List.mem_append_right _ (List.mem_append_left _ (show _ ∈ my_183_1 from List.mem_of_getElem? (i := 12) rfl)))
theorem cd_183_118 : mt_cd 183 118 = some (.iload_n 3) := mt_cd_of (q := (118, .iload_n 3, 1)) mq_183 ci_183 (List.mem_append_right _ (List.mem_append_left _ (show _ ∈ my_183_1 from List.mem_of_getElem? (i := 13) rfl)))
theorem cd_183_119 : mt_cd 183 119 = some (.invokevirtual 502) := mt_cd_of (q := (119, .invokevirtual 502, 3)) mq_183 ci_183 (List.mem_append_right _ (List.mem_append_left _ (show _ ∈ my_183_1 from List.mem_of_getElem? (i := 14) rfl)))
theorem cd_183_122 : mt_cd 183 122 = some (.goto 96) := mt_cd_of (q := (122, .goto 96, 3)) mq_183 ci_183 (List.mem_append_right _ (List.mem_append_left _ (show _ ∈ my_183_1 from List.mem_of_getElem? (i := 15) rfl)))
theorem cd_183_125 : mt_cd 183 125 = some (.aload_n 0) := mt_cd_of (q := (125, .aload_n 0, 1)) mq_183 ci_183 (List.mem_append_right _ (List.mem_append_left _ (show _ ∈ my_183_1 from List.mem_of_getElem? (i := 16) rfl)))
theorem cd_183_126 : mt_cd 183 126 = some (.getfield 513) := mt_cd_of (q := (126, .getfield 513, 3)) mq_183 ci_183 (List.mem_append_right _ (List.mem_append_left _ (show _ ∈ my_183_1 from List.mem_of_getElem? (i := 17) rfl)))
theorem cd_183_129 : mt_cd 183 129 = some (.ifCond .eq 27) := mt_cd_of (q := (129, .ifCond .eq 27, 3)) mq_183 ci_183 (List.mem_append_right _ (List.mem_append_left _ (show _ ∈ my_183_1 from List.mem_of_getElem? (i := 18) rfl)))
theorem cd_183_132 : mt_cd 183 132 = some (.aload_n 0) := mt_cd_of (q := (132, .aload_n 0, 1)) mq_183 ci_183 (List.mem_append_right _ (List.mem_append_left _ (show _ ∈ my_183_1 from List.mem_of_getElem? (i := 19) rfl)))
theorem cd_183_133 : mt_cd 183 133 = some (.getfield 175) := mt_cd_of (q := (133, .getfield 175, 3)) mq_183 ci_183 (List.mem_append_right _ (List.mem_append_left _ (show _ ∈ my_183_1 from List.mem_of_getElem? (i := 20) rfl)))
theorem cd_183_136 : mt_cd 183 136 = some (.iload 8) := mt_cd_of (q := (136, .iload 8, 2)) mq_183 ci_183 (List.mem_append_right _ (List.mem_append_left _ (show _ ∈ my_183_1 from List.mem_of_getElem? (i := 21) rfl)))
theorem cd_183_138 : mt_cd 183 138 = some (.laload) := mt_cd_of (q := (138, .laload, 1)) mq_183 ci_183 (List.mem_append_right _ (List.mem_append_left _ (show _ ∈ my_183_1 from List.mem_of_getElem? (i := 22) rfl)))
theorem cd_183_139 : mt_cd 183 139 = some (.aload_n 0) := mt_cd_of (q := (139, .aload_n 0, 1)) mq_183 ci_183 (List.mem_append_right _ (List.mem_append_left _ (show _ ∈ my_183_1 from List.mem_of_getElem? (i := 23) rfl)))
theorem cd_183_140 : mt_cd 183 140 = some (.getfield 172) := mt_cd_of (q := (140, .getfield 172, 3)) mq_183 ci_183 (List.mem_append_right _ (List.mem_append_left _ (show _ ∈ my_183_1 from List.mem_of_getElem? (i := 24) rfl)))
theorem cd_183_143 : mt_cd 183 143 = some (.iload 8) := mt_cd_of (q := (143, .iload 8, 2)) mq_183 ci_183 (List.mem_append_right _ (List.mem_append_left _ (show _ ∈ my_183_1 from List.mem_of_getElem? (i := 25) rfl)))
theorem cd_183_145 : mt_cd 183 145 = some (.laload) := mt_cd_of (q := (145, .laload, 1)) mq_183 ci_183 (List.mem_append_right _ (List.mem_append_left _ (show _ ∈ my_183_1 from List.mem_of_getElem? (i := 26) rfl)))
theorem cd_183_146 : mt_cd 183 146 = some (.lsub) := mt_cd_of (q := (146, .lsub, 1)) mq_183 ci_183 (List.mem_append_right _ (List.mem_append_left _ (show _ ∈ my_183_1 from List.mem_of_getElem? (i := 27) rfl)))
theorem cd_183_147 : mt_cd 183 147 = some (.lload 5) := mt_cd_of (q := (147, .lload 5, 2)) mq_183 ci_183 (List.mem_append_right _ (List.mem_append_left _ (show _ ∈ my_183_1 from List.mem_of_getElem? (i := 28) rfl)))
theorem cd_183_149 : mt_cd 183 149 = some (.lcmp) := mt_cd_of (q := (149, .lcmp, 1)) mq_183 ci_183 (List.mem_append_right _ (List.mem_append_left _ (show _ ∈ my_183_1 from List.mem_of_getElem? (i := 29) rfl)))
theorem cd_183_150 : mt_cd 183 150 = some (.ifCond .ge 6) := mt_cd_of (q := (150, .ifCond .ge 6, 3)) mq_183 ci_183 (List.mem_append_right _ (List.mem_append_left _ (show _ ∈ my_183_1 from List.mem_of_getElem? (i := 30) rfl)))
theorem cd_183_153 : mt_cd 183 153 = some (.bipush 7) := mt_cd_of (q := (153, .bipush 7, 2)) mq_183 ci_183 (List.mem_append_right _ (List.mem_append_left _ (show _ ∈ my_183_1 from List.mem_of_getElem? (i := 31) rfl)))
theorem cd_183_155 : mt_cd 183 155 = some (.ireturn) := mt_cd_of (q := (155, .ireturn, 1)) mq_183 ci_183 (List.mem_append_right _ (List.mem_append_left _ (show _ ∈ my_183_1 from List.mem_of_getElem? (i := 32) rfl)))
theorem cd_183_156 : mt_cd 183 156 = some (.aload_n 0) := mt_cd_of (q := (156, .aload_n 0, 1)) mq_183 ci_183 (List.mem_append_right _ (List.mem_append_left _ (show _ ∈ my_183_1 from List.mem_of_getElem? (i := 33) rfl)))
theorem cd_183_157 : mt_cd 183 157 = some (.getfield 172) := mt_cd_of (q := (157, .getfield 172, 3)) mq_183 ci_183 (List.mem_append_right _ (List.mem_append_left _ (show _ ∈ my_183_1 from List.mem_of_getElem? (i := 34) rfl)))
theorem cd_183_160 : mt_cd 183 160 = some (.iload 8) := mt_cd_of (q := (160, .iload 8, 2)) mq_183 ci_183 (List.mem_append_right _ (List.mem_append_left _ (show _ ∈ my_183_1 from List.mem_of_getElem? (i := 35) rfl)))
theorem cd_183_162 : mt_cd 183 162 = some (.dup2) := mt_cd_of (q := (162, .dup2, 1)) mq_183 ci_183 (List.mem_append_right _ (List.mem_append_left _ (show _ ∈ my_183_1 from List.mem_of_getElem? (i := 36) rfl)))
theorem cd_183_163 : mt_cd 183 163 = some (.laload) := mt_cd_of (q := (163, .laload, 1)) mq_183 ci_183 (List.mem_append_right _ (List.mem_append_left _ (show _ ∈ my_183_1 from List.mem_of_getElem? (i := 37) rfl)))
theorem cd_183_164 : mt_cd 183 164 = some (.lload 5) := mt_cd_of (q := (164, .lload 5, 2)) mq_183 ci_183 (List.mem_append_right _ (List.mem_append_left _ (show _ ∈ my_183_1 from List.mem_of_getElem? (i := 38) rfl)))
theorem cd_183_166 : mt_cd 183 166 = some (.ladd) := mt_cd_of (q := (166, .ladd, 1)) mq_183 ci_183 (List.mem_append_right _ (List.mem_append_left _ (show _ ∈ my_183_1 from List.mem_of_getElem? (i := 39) rfl)))
theorem cd_183_167 : mt_cd 183 167 = some (.lastore) := mt_cd_of (q := (167, .lastore, 1)) mq_183 ci_183 (List.mem_append_right _ (List.mem_append_left _ (show _ ∈ my_183_1 from List.mem_of_getElem? (i := 40) rfl)))
theorem cd_183_168 : mt_cd 183 168 = some (.aload_n 0) := mt_cd_of (q := (168, .aload_n 0, 1)) mq_183 ci_183 (List.mem_append_right _ (List.mem_append_left _ (show _ ∈ my_183_1 from List.mem_of_getElem? (i := 41) rfl)))
theorem cd_183_169 : mt_cd 183 169 = some (.getfield 445) := mt_cd_of (q := (169, .getfield 445, 3)) mq_183 ci_183 (List.mem_append_right _ (List.mem_append_left _ (show _ ∈ my_183_1 from List.mem_of_getElem? (i := 42) rfl)))
theorem cd_183_172 : mt_cd 183 172 = some (.getfield 448) := mt_cd_of (q := (172, .getfield 448, 3)) mq_183 ci_183 (List.mem_append_right _ (List.mem_append_left _ (show _ ∈ my_183_1 from List.mem_of_getElem? (i := 43) rfl)))
theorem cd_183_175 : mt_cd 183 175 = some (.iload 7) := mt_cd_of (q := (175, .iload 7, 2)) mq_183 ci_183 (List.mem_append_right _ (List.mem_append_left _ (show _ ∈ my_183_1 from List.mem_of_getElem? (i := 44) rfl)))
theorem cd_183_177 : mt_cd 183 177 = some (.dup2) := mt_cd_of (q := (177, .dup2, 1)) mq_183 ci_183 (List.mem_append_right _ (List.mem_append_left _ (show _ ∈ my_183_1 from List.mem_of_getElem? (i := 45) rfl)))
theorem cd_183_178 : mt_cd 183 178 = some (.laload) := mt_cd_of (q := (178, .laload, 1)) mq_183 ci_183 (List.mem_append_right _ (List.mem_append_left _ (show _ ∈ my_183_1 from List.mem_of_getElem? (i := 46) rfl)))
theorem cd_183_179 : mt_cd 183 179 = some (.lload 5) := mt_cd_of (q := (179, .lload 5, 2)) mq_183 ci_183 (List.mem_append_right _ (List.mem_append_left _ (show _ ∈ my_183_1 from List.mem_of_getElem? (i := 47) rfl)))
theorem cd_183_181 : mt_cd 183 181 = some (.ladd) := mt_cd_of (q := (181, .ladd, 1)) mq_183 ci_183 (List.mem_append_right _ (List.mem_append_left _ (show _ ∈ my_183_1 from List.mem_of_getElem? (i := 48) rfl)))
theorem cd_183_182 : mt_cd 183 182 = some (.lastore) := mt_cd_of (q := (182, .lastore, 1)) mq_183 ci_183 (List.mem_append_right _ (List.mem_append_left _ (show _ ∈ my_183_1 from List.mem_of_getElem? (i := 49) rfl)))
theorem cd_183_183 : mt_cd 183 183 = some (.aload_n 0) := mt_cd_of (q := (183, .aload_n 0, 1)) mq_183 ci_183 (List.mem_append_right _ (List.mem_append_left _ (show _ ∈ my_183_1 from List.mem_of_getElem? (i := 50) rfl)))
theorem cd_183_184 : mt_cd 183 184 = some (.getfield 445) := mt_cd_of (q := (184, .getfield 445, 3)) mq_183 ci_183 (List.mem_append_right _ (List.mem_append_left _ (show _ ∈ my_183_1 from List.mem_of_getElem? (i := 51) rfl)))
theorem cd_183_187 : mt_cd 183 187 = some (.getfield 448) := mt_cd_of (q := (187, .getfield 448, 3)) mq_183 ci_183 (List.mem_append_right _ (List.mem_append_left _ (show _ ∈ my_183_1 from List.mem_of_getElem? (i := 52) rfl)))
theorem cd_183_190 : mt_cd 183 190 = some (.iload 7) := mt_cd_of (q := (190, .iload 7, 2)) mq_183 ci_183 (List.mem_append_right _ (List.mem_append_left _ (show _ ∈ my_183_1 from List.mem_of_getElem? (i := 53) rfl)))
theorem cd_183_192 : mt_cd 183 192 = some (.laload) := mt_cd_of (q := (192, .laload, 1)) mq_183 ci_183 (List.mem_append_right _ (List.mem_append_left _ (show _ ∈ my_183_1 from List.mem_of_getElem? (i := 54) rfl)))
theorem cd_183_193 : mt_cd 183 193 = some (.ldc2_w 437) := mt_cd_of (q := (193, .ldc2_w 437, 3)) mq_183 ci_183 (List.mem_append_right _ (List.mem_append_left _ (show _ ∈ my_183_1 from List.mem_of_getElem? (i := 55) rfl)))
theorem cd_183_196 : mt_cd 183 196 = some (.lcmp) := mt_cd_of (q := (196, .lcmp, 1)) mq_183 ci_183 (List.mem_append_right _ (List.mem_append_left _ (show _ ∈ my_183_1 from List.mem_of_getElem? (i := 56) rfl)))
theorem cd_183_197 : mt_cd 183 197 = some (.ifCond .gt 18) := mt_cd_of (q := (197, .ifCond .gt 18, 3)) mq_183 ci_183 (List.mem_append_right _ (List.mem_append_left _ (show _ ∈ my_183_1 from List.mem_of_getElem? (i := 57) rfl)))
theorem cd_183_200 : mt_cd 183 200 = some (.aload_n 0) := mt_cd_of (q := (200, .aload_n 0, 1)) mq_183 ci_183 (List.mem_append_right _ (List.mem_append_left _ (show _ ∈ my_183_1 from List.mem_of_getElem? (i := 58) rfl)))
theorem cd_183_201 : mt_cd 183 201 = some (.getfield 445) := mt_cd_of (q := (201, .getfield 445, 3)) mq_183 ci_183 (List.mem_append_right _ (List.mem_append_left _ (show _ ∈ my_183_1 from List.mem_of_getElem? (i := 59) rfl)))
theorem cd_183_204 : mt_cd 183 204 = some (.getfield 448) := mt_cd_of (q := (204, .getfield 448, 3)) mq_183 ci_183 (List.mem_append_right _ (List.mem_append_right _ ((show _ ∈ my_183_2 from List.mem_of_getElem? (i := 0) rfl))))
theorem cd_183_207 : mt_cd 183 207 = some (.iload 7) := mt_cd_of (q := (207, .iload 7, 2)) mq_183 ci_183 (List.mem_append_right _ (List.mem_append_right _ ((show _ ∈ my_183_2 from List.mem_of_getElem? (i := 1) rfl))))
theorem cd_183_209 : mt_cd 183 209 = some (.laload) := mt_cd_of (q := (209, .laload, 1)) mq_183 ci_183 (List.mem_append_right _ (List.mem_append_right _ ((show _ ∈ my_183_2 from List.mem_of_getElem? (i := 2) rfl))))
theorem cd_183_210 : mt_cd 183 210 = some (.lconst 0) := mt_cd_of (q := (210, .lconst 0, 1)) mq_183 ci_183 (List.mem_append_right _ (List.mem_append_right _ ((show _ ∈ my_183_2 from List.mem_of_getElem? (i := 3) rfl))))
theorem cd_183_211 : mt_cd 183 211 = some (.lcmp) := mt_cd_of (q := (211, .lcmp, 1)) mq_183 ci_183 (List.mem_append_right _ (List.mem_append_right _ ((show _ ∈ my_183_2 from List.mem_of_getElem? (i := 4) rfl))))
theorem cd_183_212 : mt_cd 183 212 = some (.ifCond .ge 6) := mt_cd_of (q := (212, .ifCond .ge 6, 3)) mq_183 ci_183 (List.mem_append_right _ (List.mem_append_right _ ((show _ ∈ my_183_2 from List.mem_of_getElem? (i := 5) rfl))))
theorem cd_183_215 : mt_cd 183 215 = some (.bipush 6) := mt_cd_of (q := (215, .bipush 6, 2)) mq_183 ci_183 (List.mem_append_right _ (List.mem_append_right _ ((show _ ∈ my_183_2 from List.mem_of_getElem? (i := 6) rfl))))
theorem cd_183_217 : mt_cd 183 217 = some (.ireturn) := mt_cd_of (q := (217, .ireturn, 1)) mq_183 ci_183 (List.mem_append_right _ (List.mem_append_right _ ((show _ ∈ my_183_2 from List.mem_of_getElem? (i := 7) rfl))))
theorem cd_183_218 : mt_cd 183 218 = some (.goto 49) := mt_cd_of (q := (218, .goto 49, 3)) mq_183 ci_183 (List.mem_append_right _ (List.mem_append_right _ ((show _ ∈ my_183_2 from List.mem_of_getElem? (i := 8) rfl))))
theorem cd_183_221 : mt_cd 183 221 = some (.aload_n 0) := mt_cd_of (q := (221, .aload_n 0, 1)) mq_183 ci_183 (List.mem_append_right _ (List.mem_append_right _ ((show _ ∈ my_183_2 from List.mem_of_getElem? (i := 9) rfl))))
theorem cd_183_222 : mt_cd 183 222 = some (.getfield 77) := mt_cd_of (q := (222, .getfield 77, 3)) mq_183 ci_183 (List.mem_append_right _ (List.mem_append_right _ ((show _ ∈ my_183_2 from List.mem_of_getElem? (i := 10) rfl))))
theorem cd_183_225 : mt_cd 183 225 = some (.iload_n 3) := mt_cd_of (q := (225, .iload_n 3, 1)) mq_183 ci_183 (List.mem_append_right _ (List.mem_append_right _ ((show _ ∈ my_183_2 from List.mem_of_getElem? (i := 11) rfl))))
theorem cd_183_226 : mt_cd 183 226 = some (.iaload) := mt_cd_of (q := (226, .iaload, 1)) mq_183 ci_183 (List.mem_append_right _ (List.mem_append_right _ ((show _ ∈ my_183_2 from List.mem_of_getElem? (i := 12) rfl))))
theorem cd_183_227 : mt_cd 183 227 = some (.bipush 8) := mt_cd_of (q := (227, .bipush 8, 2)) mq_183 ci_183 (List.mem_append_right _ (List.mem_append_right _ ((show _ ∈ my_183_2 from List.mem_of_getElem? (i := 13) rfl))))
theorem cd_183_229 : mt_cd 183 229 = some (.if_icmp .ne 38) := mt_cd_of (q := (229, .if_icmp .ne 38, 3)) mq_183 ci_183 (List.mem_append_right _ (List.mem_append_right _ ((show _ ∈ my_183_2 from List.mem_of_getElem? (i := 14) rfl))))
theorem cd_183_232 : mt_cd 183 232 = some (.aload_n 0) := mt_cd_of (q := (232, .aload_n 0, 1)) mq_183 ci_183 (List.mem_append_right _ (List.mem_append_right _ ((show _ ∈ my_183_2 from List.mem_of_getElem? (i := 15) rfl))))
theorem cd_183_233 : mt_cd 183 233 = some (.getfield 445) := mt_cd_of (q := (233, .getfield 445, 3)) mq_183 ci_183 (List.mem_append_right _ (List.mem_append_right _ ((show _ ∈ my_183_2 from List.mem_of_getElem? (i := 16) rfl))))
theorem cd_183_236 : mt_cd 183 236 = some (.getfield 459) := mt_cd_of (q := (236, .getfield 459, 3)) mq_183 ci_183 (List.mem_append_right _ (List.mem_append_right _ ((show _ ∈ my_183_2 from List.mem_of_getElem? (i := 17) rfl))))
theorem cd_183_239 : mt_cd 183 239 = some (.aload_n 0) := mt_cd_of (q := (239, .aload_n 0, 1)) mq_183 ci_183 (List.mem_append_right _ (List.mem_append_right _ ((show _ ∈ my_183_2 from List.mem_of_getElem? (i := 18) rfl))))
theorem cd_183_240 : mt_cd 183 240 = some (.getfield 80) := mt_cd_of (q := (240, .getfield 80, 3)) mq_183 ci_183 (List.mem_append_right _ (List.mem_append_right _ ((show _ ∈ my_183_2 from List.mem_of_getElem? (i := 19) rfl))))
theorem cd_183_243 : mt_cd 183 243 = some (.iload_n 3) := mt_cd_of (q := (243, .iload_n 3, 1)) mq_183 ci_183 (List.mem_append_right _ (List.mem_append_right _ ((show _ ∈ my_183_2 from List.mem_of_getElem? (i := 20) rfl))))
theorem cd_183_244 : mt_cd 183 244 = some (.iaload) := mt_cd_of (q := (244, .iaload, 1)) mq_183 ci_183 (List.mem_append_right _ (List.mem_append_right _ ((show _ ∈ my_183_2 from List.mem_of_getElem? (i := 21) rfl))))
theorem cd_183_245 : mt_cd 183 245 = some (.iconst 1) := mt_cd_of (q := (245, .iconst 1, 1)) mq_183 ci_183 (List.mem_append_right _ (List.mem_append_right _ ((show _ ∈ my_183_2 from List.mem_of_getElem? (i := 22) rfl))))
theorem cd_183_246 : mt_cd 183 246 = some (.bastore) := mt_cd_of (q := (246, .bastore, 1)) mq_183 ci_183 (List.mem_append_right _ (List.mem_append_right _ ((show _ ∈ my_183_2 from List.mem_of_getElem? (i := 23) rfl))))
theorem cd_183_247 : mt_cd 183 247 = some (.aload_n 0) := mt_cd_of (q := (247, .aload_n 0, 1)) mq_183 ci_183 (List.mem_append_right _ (List.mem_append_right _ ((show _ ∈ my_183_2 from List.mem_of_getElem? (i := 24) rfl))))
theorem cd_183_248 : mt_cd 183 248 = some (.getfield 445) := mt_cd_of (q := (248, .getfield 445, 3)) mq_183 ci_183 (List.mem_append_right _ (List.mem_append_right _ ((show _ ∈ my_183_2 from List.mem_of_getElem? (i := 25) rfl))))
theorem cd_183_251 : mt_cd 183 251 = some (.getfield 463) := mt_cd_of (q := (251, .getfield 463, 3)) mq_183 ci_183 (List.mem_append_right _ (List.mem_append_right _ ((show _ ∈ my_183_2 from List.mem_of_getElem? (i := 26) rfl))))
theorem cd_183_254 : mt_cd 183 254 = some (.aload_n 0) := mt_cd_of (q := (254, .aload_n 0, 1)) mq_183 ci_183 (List.mem_append_right _ (List.mem_append_right _ ((show _ ∈ my_183_2 from List.mem_of_getElem? (i := 27) rfl))))
theorem cd_183_255 : mt_cd 183 255 = some (.getfield 80) := mt_cd_of (q := (255, .getfield 80, 3)) mq_183 ci_183 (List.mem_append_right _ (List.mem_append_right _ ((show _ ∈ my_183_2 from List.mem_of_getElem? (i := 28) rfl))))
theorem cd_183_258 : mt_cd 183 258 = some (.iload_n 3) := mt_cd_of (q := (258, .iload_n 3, 1)) mq_183 ci_183 (List.mem_append_right _ (List.mem_append_right _ ((show _ ∈ my_183_2 from List.mem_of_getElem? (i := 29) rfl))))
theorem cd_183_259 : mt_cd 183 259 = some (.iaload) := mt_cd_of (q := (259, .iaload, 1)) mq_183 ci_183 (List.mem_append_right _ (List.mem_append_right _ ((show _ ∈ my_183_2 from List.mem_of_getElem? (i := 30) rfl))))
theorem cd_183_260 : mt_cd 183 260 = some (.aload_n 0) := mt_cd_of (q := (260, .aload_n 0, 1)) mq_183 ci_183 (List.mem_append_right _ (List.mem_append_right _ ((show _ ∈ my_183_2 from List.mem_of_getElem? (i := 31) rfl))))
theorem cd_183_261 : mt_cd 183 261 = some (.getfield 190) := mt_cd_of (q := (261, .getfield 190, 3)) mq_183 ci_183 (List.mem_append_right _ (List.mem_append_right _ ((show _ ∈ my_183_2 from List.mem_of_getElem? (i := 32) rfl))))
theorem cd_183_264 : mt_cd 183 264 = some (.iload_n 1) := mt_cd_of (q := (264, .iload_n 1, 1)) mq_183 ci_183 (List.mem_append_right _ (List.mem_append_right _ ((show _ ∈ my_183_2 from List.mem_of_getElem? (i := 33) rfl))))
theorem cd_183_265 : mt_cd 183 265 = some (.laload) := mt_cd_of (q := (265, .laload, 1)) mq_183 ci_183 (List.mem_append_right _ (List.mem_append_right _ ((show _ ∈ my_183_2 from List.mem_of_getElem? (i := 34) rfl))))
theorem cd_183_266 : mt_cd 183 266 = some (.lastore) := mt_cd_of (q := (266, .lastore, 1)) mq_183 ci_183 (List.mem_append_right _ (List.mem_append_right _ ((show _ ∈ my_183_2 from List.mem_of_getElem? (i := 35) rfl))))
theorem cd_183_267 : mt_cd 183 267 = some (.aload_n 0) := mt_cd_of (q := (267, .aload_n 0, 1)) mq_183 ci_183 (List.mem_append_right _ (List.mem_append_right _ ((show _ ∈ my_183_2 from List.mem_of_getElem? (i := 36) rfl))))
theorem cd_183_268 : mt_cd 183 268 = some (.getfield 445) := mt_cd_of (q := (268, .getfield 445, 3)) mq_183 ci_183 (List.mem_append_right _ (List.mem_append_right _ ((show _ ∈ my_183_2 from List.mem_of_getElem? (i := 37) rfl))))
theorem cd_183_271 : mt_cd 183 271 = some (.aload_n 0) := mt_cd_of (q := (271, .aload_n 0, 1)) mq_183 ci_183 (List.mem_append_right _ (List.mem_append_right _ ((show _ ∈ my_183_2 from List.mem_of_getElem? (i := 38) rfl))))
theorem cd_183_272 : mt_cd 183 272 = some (.getfield 98) := mt_cd_of (q := (272, .getfield 98, 3)) mq_183 ci_183 (List.mem_append_right _ (List.mem_append_right _ ((show _ ∈ my_183_2 from List.mem_of_getElem? (i := 39) rfl))))
theorem cd_183_275 : mt_cd 183 275 = some (.iload_n 3) := mt_cd_of (q := (275, .iload_n 3, 1)) mq_183 ci_183 (List.mem_append_right _ (List.mem_append_right _ ((show _ ∈ my_183_2 from List.mem_of_getElem? (i := 40) rfl))))
theorem cd_183_276 : mt_cd 183 276 = some (.iaload) := mt_cd_of (q := (276, .iaload, 1)) mq_183 ci_183 (List.mem_append_right _ (List.mem_append_right _ ((show _ ∈ my_183_2 from List.mem_of_getElem? (i := 41) rfl))))
theorem cd_183_277 : mt_cd 183 277 = some (.putfield 496) := mt_cd_of (q := (277, .putfield 496, 3)) mq_183 ci_183 (List.mem_append_right _ (List.mem_append_right _ ((show _ ∈ my_183_2 from List.mem_of_getElem? (i := 42) rfl))))
theorem cd_183_280 : mt_cd 183 280 = some (.iconst 0) := mt_cd_of (q := (280, .iconst 0, 1)) mq_183 ci_183 (List.mem_append_right _ (List.mem_append_right _ ((show _ ∈ my_183_2 from List.mem_of_getElem? (i := 43) rfl))))
theorem cd_183_281 : mt_cd 183 281 = some (.ireturn) := mt_cd_of (q := (281, .ireturn, 1)) mq_183 ci_183 (List.mem_append_right _ (List.mem_append_right _ ((show _ ∈ my_183_2 from List.mem_of_getElem? (i := 44) rfl))))
theorem cd_183_282 : mt_cd 183 282 = some (.aload_n 0) := mt_cd_of (q := (282, .aload_n 0, 1)) mq_183 ci_183 (List.mem_append_right _ (List.mem_append_right _ ((show _ ∈ my_183_2 from List.mem_of_getElem? (i := 45) rfl))))
theorem cd_183_283 : mt_cd 183 283 = some (.getfield 138) := mt_cd_of (q := (283, .getfield 138, 3)) mq_183 ci_183 (List.mem_append_right _ (List.mem_append_right _ ((show _ ∈ my_183_2 from List.mem_of_getElem? (i := 46) rfl))))
theorem cd_183_286 : mt_cd 183 286 = some (.iload_n 3) := mt_cd_of (q := (286, .iload_n 3, 1)) mq_183 ci_183 (List.mem_append_right _ (List.mem_append_right _ ((show _ ∈ my_183_2 from List.mem_of_getElem? (i := 47) rfl))))
theorem cd_183_287 : mt_cd 183 287 = some (.iaload) := mt_cd_of (q := (287, .iaload, 1)) mq_183 ci_183 (List.mem_append_right _ (List.mem_append_right _ ((show _ ∈ my_183_2 from List.mem_of_getElem? (i := 48) rfl))))
theorem cd_183_288 : mt_cd 183 288 = some (.istore_n 3) := mt_cd_of (q := (288, .istore_n 3, 1)) mq_183 ci_183 (List.mem_append_right _ (List.mem_append_right _ ((show _ ∈ my_183_2 from List.mem_of_getElem? (i := 49) rfl))))
theorem cd_183_289 : mt_cd 183 289 = some (.goto (-262)) := mt_cd_of (q := (289, .goto (-262), 3)) mq_183 ci_183 (List.mem_append_right _ (List.mem_append_right _ ((show _ ∈ my_183_2 from List.mem_of_getElem? (i := 50) rfl))))
theorem cd_183_292 : mt_cd 183 292 = some (.iconst 4) := mt_cd_of (q := (292, .iconst 4, 1)) mq_183 ci_183 (List.mem_append_right _ (List.mem_append_right _ ((show _ ∈ my_183_2 from List.mem_of_getElem? (i := 51) rfl))))
theorem cd_183_293 : mt_cd 183 293 = some (.ireturn) := mt_cd_of (q := (293, .ireturn, 1)) mq_183 ci_183 (List.mem_append_right _ (List.mem_append_right _ ((show _ ∈ my_183_2 from List.mem_of_getElem? (i := 52) rfl))))
theorem b_183_0 {d : Nat} {Q : (Option Value ⊕ Nat) → mi_H → Prop} (n sl : Nat) (f : Nat → mi_C) {l1 : Nat} {l2 : Int32} {o3 : Option Value} {o4 : Option Value} {o5 : Option Value} {o6 : Option Value} {o7 : Option Value} {o8 : Option Value} {o9 : Option Value} {fs10 : List Value} {x13 : Nat} {fs15 : List Value} {x18 : Int32} {fs20 : List Value} {x23 : Nat} (m25 i25 : Nat) (g25 : Nat → Int32) (h11 : f l1 = .inr (12, fs10)) (h12 : l1 < n) (h14 : fs10[43]? = some (.ref x13)) (h16 : f x13 = .inr (13, fs15)) (h17 : x13 < n) (h19 : fs15[0]? = some (.int x18)) (h21 : f l1 = .inr (12, fs20)) (h22 : l1 < n) (h24 : fs20[12]? = some (.ref x23)) (h26 : f x23 = .inl (0, m25, .inl g25)) (h27 : x23 < n ∨ x23 = mi_SC) (h28 : mi_ix x18 m25 i25) (h29 : (g25 i25) = 4 → mi_W d 183 20 [some (.ref l1), some (.int l2), some (.int x18), o4, o5, o6, o7, o8, o9] [] (n, sl, f) Q) (h30 : ¬ ((g25 i25) = 4) → mi_W d 183 18 [some (.ref l1), some (.int l2), some (.int x18), o4, o5, o6, o7, o8, o9] [] (n, sl, f) Q) : mi_W d 183 0 [some (.ref l1), some (.int l2), o3, o4, o5, o6, o7, o8, o9] [] (n, sl, f) Q := by
  refine w_aload_n cd_183_0 rfl ?_
  refine w_getfield cd_183_1 (show mt_f 12 445 = some (12, 43) by decide +kernel) h11 h12 h14 ?_
  refine w_getfield cd_183_4 (show mt_f 12 496 = some (13, 0) by decide +kernel) h16 h17 h19 ?_
  refine w_istore_n (ls' := [some (.ref l1), some (.int l2), some (.int x18), o4, o5, o6, o7, o8, o9]) cd_183_7 (Nat.le_of_ble_eq_true rfl) rfl ?_
  refine w_aload_n cd_183_8 rfl ?_
  refine w_getfield cd_183_9 (show mt_f 12 77 = some (12, 12) by decide +kernel) h21 h22 h24 ?_
  refine w_iload_n cd_183_12 rfl ?_
  refine w_iaload cd_183_13 h26 h27 h28 ?_
  refine w_iconst (v := 4) cd_183_14 (by decide) ?_
  exact w_if_icmpeq cd_183_15 (by decide) h29 h30
theorem b_183_18 {d : Nat} {Q : (Option Value ⊕ Nat) → mi_H → Prop} (n sl : Nat) (f : Nat → mi_C) {l1 : Nat} {l2 : Int32} {l3 : Int32} {o4 : Option Value} {o5 : Option Value} {o6 : Option Value} {o7 : Option Value} {o8 : Option Value} {o9 : Option Value} (h10 : Q (.inl (some (.int 4))) (n, sl, f)) : mi_W d 183 18 [some (.ref l1), some (.int l2), some (.int l3), o4, o5, o6, o7, o8, o9] [] (n, sl, f) Q := by
  refine w_iconst (v := 4) cd_183_18 (by decide) ?_
  exact w_ireturn_i cd_183_19 (by decide +kernel) h10
theorem b_183_20 {d : Nat} {Q : (Option Value ⊕ Nat) → mi_H → Prop} (n sl : Nat) (f : Nat → mi_C) {l1 : Nat} {l2 : Int32} {l3 : Int32} {o4 : Option Value} {o5 : Option Value} {o6 : Option Value} {o7 : Option Value} {o8 : Option Value} {o9 : Option Value} {fs10 : List Value} {x13 : Nat} (m15 i15 : Nat) (g15 : Nat → Int32) (h11 : f l1 = .inr (12, fs10)) (h12 : l1 < n) (h14 : fs10[17]? = some (.ref x13)) (h16 : f x13 = .inl (0, m15, .inl g15)) (h17 : x13 < n ∨ x13 = mi_SC) (h18 : mi_ix l3 m15 i15) (h19 : mi_W d 183 27 [some (.ref l1), some (.int l2), some (.int l3), some (.int (g15 i15)), o5, o6, o7, o8, o9] [] (n, sl, f) Q) : mi_W d 183 20 [some (.ref l1), some (.int l2), some (.int l3), o4, o5, o6, o7, o8, o9] [] (n, sl, f) Q := by
  refine w_aload_n cd_183_20 rfl ?_
  refine w_getfield cd_183_21 (show mt_f 12 92 = some (12, 17) by decide +kernel) h11 h12 h14 ?_
  refine w_iload_n cd_183_24 rfl ?_
  refine w_iaload cd_183_25 h16 h17 h18 ?_
  refine w_istore_n (ls' := [some (.ref l1), some (.int l2), some (.int l3), some (.int (g15 i15)), o5, o6, o7, o8, o9]) cd_183_26 (Nat.le_of_ble_eq_true rfl) rfl ?_
  exact h19
theorem b_183_27 {d : Nat} {Q : (Option Value ⊕ Nat) → mi_H → Prop} (n sl : Nat) (f : Nat → mi_C) {l1 : Nat} {l2 : Int32} {l3 : Int32} {l4 : Int32} {o5 : Option Value} {o6 : Option Value} {o7 : Option Value} {o8 : Option Value} {o9 : Option Value} (h10 : l4 < (0 : Int32) → mi_W d 183 292 [some (.ref l1), some (.int l2), some (.int l3), some (.int l4), o5, o6, o7, o8, o9] [] (n, sl, f) Q) (h11 : ¬ (l4 < (0 : Int32)) → mi_W d 183 31 [some (.ref l1), some (.int l2), some (.int l3), some (.int l4), o5, o6, o7, o8, o9] [] (n, sl, f) Q) : mi_W d 183 27 [some (.ref l1), some (.int l2), some (.int l3), some (.int l4), o5, o6, o7, o8, o9] [] (n, sl, f) Q := by
  refine w_iload_n cd_183_27 rfl ?_
  exact w_iflt cd_183_28 (by decide) h10 h11
theorem b_183_31 {d : Nat} {Q : (Option Value ⊕ Nat) → mi_H → Prop} (n sl : Nat) (f : Nat → mi_C) {l1 : Nat} {l2 : Int32} {l3 : Int32} {l4 : Int32} {o5 : Option Value} {o6 : Option Value} {o7 : Option Value} {o8 : Option Value} {o9 : Option Value} {fs10 : List Value} (h11 : f l1 = .inr (12, fs10)) (h12 : l1 < n) (h13 : mi_W d 184 0 (mi_en 5 [.ref l1, .int l4, .int l2]) [] (n, sl, f) (mi_Kc d 183 34 [some (.ref l1), some (.int l2), some (.int l3), some (.int l4), o5, o6, o7, o8, o9] [] Q)) : mi_W (d + 1) 183 31 [some (.ref l1), some (.int l2), some (.int l3), some (.int l4), o5, o6, o7, o8, o9] [] (n, sl, f) Q := by
  refine w_aload_n cd_183_31 rfl ?_
  refine w_iload_n cd_183_32 rfl ?_
  refine w_iload_n cd_183_33 rfl ?_
  exact w_invokevirtual cd_183_34 (show mt_m 12 509 = some (184, 0) by decide +kernel) (rest := []) rfl (as := [.ref l1, .int l4, .int l2]) rfl h11 (Or.inl h12) ⟨Nat.le_of_ble_eq_true rfl, Nat.le_of_ble_eq_true rfl, Nat.le_of_ble_eq_true rfl⟩ h13
theorem b_183_37 {d : Nat} {Q : (Option Value ⊕ Nat) → mi_H → Prop} (n sl : Nat) (f : Nat → mi_C) {l1 : Nat} {l2 : Int32} {l3 : Int32} {l4 : Int32} {o5 : Option Value} {o6 : Option Value} {o7 : Option Value} {o8 : Option Value} {o9 : Option Value} {s10 : Int32} (h11 : s10 ≤ 1 → mi_W d 183 48 [some (.ref l1), some (.int l2), some (.int l3), some (.int l4), some (.int s10), o6, o7, o8, o9] [] (n, sl, f) Q) (h12 : ¬ (s10 ≤ 1) → mi_W d 183 45 [some (.ref l1), some (.int l2), some (.int l3), some (.int l4), some (.int s10), o6, o7, o8, o9] [] (n, sl, f) Q) : mi_W d 183 37 [some (.ref l1), some (.int l2), some (.int l3), some (.int l4), o5, o6, o7, o8, o9] [.int s10] (n, sl, f) Q := by
  refine w_istore (ls' := [some (.ref l1), some (.int l2), some (.int l3), some (.int l4), some (.int s10), o6, o7, o8, o9]) cd_183_37 (Nat.le_of_ble_eq_true rfl) rfl ?_
  refine w_iload cd_183_39 rfl ?_
  refine w_iconst (v := 1) cd_183_41 (by decide) ?_
  exact w_if_icmple cd_183_42 (by decide) h11 h12
theorem b_183_45 {d : Nat} {Q : (Option Value ⊕ Nat) → mi_H → Prop} (n sl : Nat) (f : Nat → mi_C) {l1 : Nat} {l2 : Int32} {l3 : Int32} {l4 : Int32} {l5 : Int32} {o6 : Option Value} {o7 : Option Value} {o8 : Option Value} {o9 : Option Value} (h10 : Q (.inl (some (.int l5))) (n, sl, f)) : mi_W d 183 45 [some (.ref l1), some (.int l2), some (.int l3), some (.int l4), some (.int l5), o6, o7, o8, o9] [] (n, sl, f) Q := by
  refine w_iload cd_183_45 rfl ?_
  exact w_ireturn_i cd_183_47 (by decide +kernel) h10
theorem b_183_48 {d : Nat} {Q : (Option Value ⊕ Nat) → mi_H → Prop} (n sl : Nat) (f : Nat → mi_C) {l1 : Nat} {l2 : Int32} {l3 : Int32} {l4 : Int32} {l5 : Int32} {o6 : Option Value} {o7 : Option Value} {o8 : Option Value} {o9 : Option Value} (h10 : ¬ l5 = (0 : Int32) → mi_W d 183 56 [some (.ref l1), some (.int l2), some (.int l3), some (.int l4), some (.int l5), o6, o7, o8, o9] [] (n, sl, f) Q) (h11 : ¬ (¬ l5 = (0 : Int32)) → mi_W d 183 53 [some (.ref l1), some (.int l2), some (.int l3), some (.int l4), some (.int l5), o6, o7, o8, o9] [] (n, sl, f) Q) : mi_W d 183 48 [some (.ref l1), some (.int l2), some (.int l3), some (.int l4), some (.int l5), o6, o7, o8, o9] [] (n, sl, f) Q := by
  refine w_iload cd_183_48 rfl ?_
  exact w_ifne cd_183_50 (by decide) h10 h11
theorem b_183_53 {d : Nat} {Q : (Option Value ⊕ Nat) → mi_H → Prop} (n sl : Nat) (f : Nat → mi_C) {l1 : Nat} {l2 : Int32} {l3 : Int32} {l4 : Int32} {l5 : Int32} {o6 : Option Value} {o7 : Option Value} {o8 : Option Value} {o9 : Option Value} (h10 : mi_W d 183 282 [some (.ref l1), some (.int l2), some (.int l3), some (.int l4), some (.int l5), o6, o7, o8, o9] [] (n, sl, f) Q) : mi_W d 183 53 [some (.ref l1), some (.int l2), some (.int l3), some (.int l4), some (.int l5), o6, o7, o8, o9] [] (n, sl, f) Q := by
  exact w_goto cd_183_53 (by decide) h10
theorem b_183_56 {d : Nat} {Q : (Option Value ⊕ Nat) → mi_H → Prop} (n sl : Nat) (f : Nat → mi_C) {l1 : Nat} {l2 : Int32} {l3 : Int32} {l4 : Int32} {l5 : Int32} {o6 : Option Value} {o7 : Option Value} {o8 : Option Value} {o9 : Option Value} {fs10 : List Value} {x13 : Nat} (m15 i15 : Nat) (g15 : Nat → Int32) (h11 : f l1 = .inr (12, fs10)) (h12 : l1 < n) (h14 : fs10[12]? = some (.ref x13)) (h16 : f x13 = .inl (0, m15, .inl g15)) (h17 : x13 < n ∨ x13 = mi_SC) (h18 : mi_ix l4 m15 i15) (h19 : ¬ (g15 i15) = 7 → mi_W d 183 221 [some (.ref l1), some (.int l2), some (.int l3), some (.int l4), some (.int l5), o6, o7, o8, o9] [] (n, sl, f) Q) (h20 : ¬ (¬ (g15 i15) = 7) → mi_W d 183 67 [some (.ref l1), some (.int l2), some (.int l3), some (.int l4), some (.int l5), o6, o7, o8, o9] [] (n, sl, f) Q) : mi_W d 183 56 [some (.ref l1), some (.int l2), some (.int l3), some (.int l4), some (.int l5), o6, o7, o8, o9] [] (n, sl, f) Q := by
  refine w_aload_n cd_183_56 rfl ?_
  refine w_getfield cd_183_57 (show mt_f 12 77 = some (12, 12) by decide +kernel) h11 h12 h14 ?_
  refine w_iload_n cd_183_60 rfl ?_
  refine w_iaload cd_183_61 h16 h17 h18 ?_
  refine w_bipush (v := 7) cd_183_62 (by decide) ?_
  exact w_if_icmpne cd_183_64 (by decide) h19 h20
theorem b_183_67 {d : Nat} {Q : (Option Value ⊕ Nat) → mi_H → Prop} (n sl : Nat) (f : Nat → mi_C) {l1 : Nat} {l2 : Int32} {l3 : Int32} {l4 : Int32} {l5 : Int32} {o6 : Option Value} {o7 : Option Value} {o8 : Option Value} {o9 : Option Value} {fs10 : List Value} {x13 : Nat} (m15 i15 : Nat) (g15 : Nat → Int64) {fs19 : List Value} {x22 : Nat} (m24 i24 : Nat) (g24 : Nat → Int32) {fs28 : List Value} {x31 : Nat} (m33 i33 : Nat) (g33 : Nat → Int32) {fs37 : List Value} {x40 : Nat} (m42 i42 : Nat) (g42 : Nat → Int32) {fs46 : List Value} {x49 : Nat} (m51 i51 : Nat) (g51 : Nat → Int32) (h11 : f l1 = .inr (12, fs10)) (h12 : l1 < n) (h14 : fs10[64]? = some (.ref x13)) (h16 : f x13 = .inl (3, m15, .inr (.inl g15))) (h17 : x13 < n) (h18 : mi_ix l2 m15 i15) (h20 : f l1 = .inr (12, fs19)) (h21 : l1 < n) (h23 : fs19[13]? = some (.ref x22)) (h25 : f x22 = .inl (0, m24, .inl g24)) (h26 : x22 < n ∨ x22 = mi_SC) (h27 : mi_ix l4 m24 i24) (h29 : f l1 = .inr (12, fs28)) (h30 : l1 < n) (h32 : fs28[15]? = some (.ref x31)) (h34 : f x31 = .inl (0, m33, .inl g33)) (h35 : x31 < n ∨ x31 = mi_SC) (h36 : mi_ix l4 m33 i33) (h38 : f l1 = .inr (12, fs37)) (h39 : l1 < n) (h41 : fs37[14]? = some (.ref x40)) (h43 : f x40 = .inl (0, m42, .inl g42)) (h44 : x40 < n ∨ x40 = mi_SC) (h45 : mi_ix l4 m42 i42) (h47 : f l1 = .inr (12, fs46)) (h48 : l1 < n) (h50 : fs46[15]? = some (.ref x49)) (h52 : f x49 = .inl (0, m51, .inl g51)) (h53 : x49 < n ∨ x49 = mi_SC) (h54 : mi_ix l4 m51 i51) (h55 : (0 : Int32) < (lg_cmp (g15 i15) 0) → mi_W d 183 125 [some (.ref l1), some (.int l2), some (.int l3), some (.int l4), some (.int l5), some (.long (g15 i15)), none, some (.int ((4 * (g24 i24)) + (g33 i33))), some (.int ((4 * (g42 i42)) + (g51 i51)))] [] (n, sl, f) Q) (h56 : ¬ ((0 : Int32) < (lg_cmp (g15 i15) 0)) → mi_W d 183 116 [some (.ref l1), some (.int l2), some (.int l3), some (.int l4), some (.int l5), some (.long (g15 i15)), none, some (.int ((4 * (g24 i24)) + (g33 i33))), some (.int ((4 * (g42 i42)) + (g51 i51)))] [] (n, sl, f) Q) : mi_W d 183 67 [some (.ref l1), some (.int l2), some (.int l3), some (.int l4), some (.int l5), o6, o7, o8, o9] [] (n, sl, f) Q := by
  refine w_aload_n cd_183_67 rfl ?_
  refine w_getfield cd_183_68 (show mt_f 12 190 = some (12, 64) by decide +kernel) h11 h12 h14 ?_
  refine w_iload_n cd_183_71 rfl ?_
  refine w_laload cd_183_72 h16 h17 h18 ?_
  refine w_lstore (ls' := [some (.ref l1), some (.int l2), some (.int l3), some (.int l4), some (.int l5), some (.long (g15 i15)), none, o8, o9]) cd_183_73 (Nat.le_of_ble_eq_true rfl) rfl ?_
  refine w_iconst (v := 4) cd_183_75 (by decide) ?_
  refine w_aload_n cd_183_76 rfl ?_
  refine w_getfield cd_183_77 (show mt_f 12 80 = some (12, 13) by decide +kernel) h20 h21 h23 ?_
  refine w_iload_n cd_183_80 rfl ?_
  refine w_iaload cd_183_81 h25 h26 h27 ?_
  refine w_imul cd_183_82 ?_
  refine w_aload_n cd_183_83 rfl ?_
  refine w_getfield cd_183_84 (show mt_f 12 86 = some (12, 15) by decide +kernel) h29 h30 h32 ?_
  refine w_iload_n cd_183_87 rfl ?_
  refine w_iaload cd_183_88 h34 h35 h36 ?_
  refine w_iadd cd_183_89 ?_
  refine w_istore (ls' := [some (.ref l1), some (.int l2), some (.int l3), some (.int l4), some (.int l5), some (.long (g15 i15)), none, some (.int ((4 * (g24 i24)) + (g33 i33))), o9]) cd_183_90 (Nat.le_of_ble_eq_true rfl) rfl ?_
  refine w_iconst (v := 4) cd_183_92 (by decide) ?_
  refine w_aload_n cd_183_93 rfl ?_
  refine w_getfield cd_183_94 (show mt_f 12 83 = some (12, 14) by decide +kernel) h38 h39 h41 ?_
  refine w_iload_n cd_183_97 rfl ?_
  refine w_iaload cd_183_98 h43 h44 h45 ?_
  refine w_imul cd_183_99 ?_
  refine w_aload_n cd_183_100 rfl ?_
  refine w_getfield cd_183_101 (show mt_f 12 86 = some (12, 15) by decide +kernel) h47 h48 h50 ?_
  refine w_iload_n cd_183_104 rfl ?_
  refine w_iaload cd_183_105 h52 h53 h54 ?_
  refine w_iadd cd_183_106 ?_
  refine w_istore (ls' := [some (.ref l1), some (.int l2), some (.int l3), some (.int l4), some (.int l5), some (.long (g15 i15)), none, some (.int ((4 * (g24 i24)) + (g33 i33))), some (.int ((4 * (g42 i42)) + (g51 i51)))]) cd_183_107 (Nat.le_of_ble_eq_true rfl) rfl ?_
  refine w_lload cd_183_109 rfl ?_
  refine w_lconst (lv := 0) cd_183_111 (by decide) ?_
  refine w_lcmp cd_183_112 ?_
  exact w_ifgt cd_183_113 (by decide) h55 h56
theorem b_183_116 {d : Nat} {Q : (Option Value ⊕ Nat) → mi_H → Prop} (n sl : Nat) (f : Nat → mi_C) {l1 : Nat} {l2 : Int32} {l3 : Int32} {l4 : Int32} {l5 : Int32} {l6 : Int64} {l7 : Int32} {l8 : Int32} {fs9 : List Value} (h10 : f l1 = .inr (12, fs9)) (h11 : l1 < n) (h12 : mi_W d 182 0 (mi_en 3 [.ref l1, .int 1, .int l4]) [] (n, sl, f) (mi_Kc d 183 119 [some (.ref l1), some (.int l2), some (.int l3), some (.int l4), some (.int l5), some (.long l6), none, some (.int l7), some (.int l8)] [] Q)) : mi_W (d + 1) 183 116 [some (.ref l1), some (.int l2), some (.int l3), some (.int l4), some (.int l5), some (.long l6), none, some (.int l7), some (.int l8)] [] (n, sl, f) Q := by
  refine w_aload_n cd_183_116 rfl ?_
  refine w_iconst (v := 1) cd_183_117 (by decide) ?_
  refine w_iload_n cd_183_118 rfl ?_
  exact w_invokevirtual cd_183_119 (show mt_m 12 502 = some (182, 0) by decide +kernel) (rest := []) rfl (as := [.ref l1, .int 1, .int l4]) rfl h10 (Or.inl h11) ⟨Nat.le_of_ble_eq_true rfl, Nat.le_of_ble_eq_true rfl, Nat.le_of_ble_eq_true rfl⟩ h12
theorem b_183_122 {d : Nat} {Q : (Option Value ⊕ Nat) → mi_H → Prop} (n sl : Nat) (f : Nat → mi_C) {l1 : Nat} {l2 : Int32} {l3 : Int32} {l4 : Int32} {l5 : Int32} {l6 : Int64} {l7 : Int32} {l8 : Int32} (h9 : mi_W d 183 218 [some (.ref l1), some (.int l2), some (.int l3), some (.int l4), some (.int l5), some (.long l6), none, some (.int l7), some (.int l8)] [] (n, sl, f) Q) : mi_W d 183 122 [some (.ref l1), some (.int l2), some (.int l3), some (.int l4), some (.int l5), some (.long l6), none, some (.int l7), some (.int l8)] [] (n, sl, f) Q := by
  exact w_goto cd_183_122 (by decide) h9
theorem b_183_125 {d : Nat} {Q : (Option Value ⊕ Nat) → mi_H → Prop} (n sl : Nat) (f : Nat → mi_C) {l1 : Nat} {l2 : Int32} {l3 : Int32} {l4 : Int32} {l5 : Int32} {l6 : Int64} {l7 : Int32} {l8 : Int32} {fs9 : List Value} {x12 : Int32} (h10 : f l1 = .inr (12, fs9)) (h11 : l1 < n) (h13 : fs9[57]? = some (.int x12)) (h14 : x12 = (0 : Int32) → mi_W d 183 156 [some (.ref l1), some (.int l2), some (.int l3), some (.int l4), some (.int l5), some (.long l6), none, some (.int l7), some (.int l8)] [] (n, sl, f) Q) (h15 : ¬ (x12 = (0 : Int32)) → mi_W d 183 132 [some (.ref l1), some (.int l2), some (.int l3), some (.int l4), some (.int l5), some (.long l6), none, some (.int l7), some (.int l8)] [] (n, sl, f) Q) : mi_W d 183 125 [some (.ref l1), some (.int l2), some (.int l3), some (.int l4), some (.int l5), some (.long l6), none, some (.int l7), some (.int l8)] [] (n, sl, f) Q := by
  refine w_aload_n cd_183_125 rfl ?_
  refine w_getfield cd_183_126 (show mt_f 12 513 = some (12, 57) by decide +kernel) h10 h11 h13 ?_
  exact w_ifeq cd_183_129 (by decide) h14 h15
theorem b_183_132 {d : Nat} {Q : (Option Value ⊕ Nat) → mi_H → Prop} (n sl : Nat) (f : Nat → mi_C) {l1 : Nat} {l2 : Int32} {l3 : Int32} {l4 : Int32} {l5 : Int32} {l6 : Int64} {l7 : Int32} {l8 : Int32} {fs9 : List Value} {x12 : Nat} (m14 i14 : Nat) (g14 : Nat → Int64) {fs18 : List Value} {x21 : Nat} (m23 i23 : Nat) (g23 : Nat → Int64) (h10 : f l1 = .inr (12, fs9)) (h11 : l1 < n) (h13 : fs9[56]? = some (.ref x12)) (h15 : f x12 = .inl (3, m14, .inr (.inl g14))) (h16 : x12 < n) (h17 : mi_ix l8 m14 i14) (h19 : f l1 = .inr (12, fs18)) (h20 : l1 < n) (h22 : fs18[55]? = some (.ref x21)) (h24 : f x21 = .inl (3, m23, .inr (.inl g23))) (h25 : x21 < n) (h26 : mi_ix l8 m23 i23) (h27 : (0 : Int32) ≤ (lg_cmp ((g14 i14) - (g23 i23)) l6) → mi_W d 183 156 [some (.ref l1), some (.int l2), some (.int l3), some (.int l4), some (.int l5), some (.long l6), none, some (.int l7), some (.int l8)] [] (n, sl, f) Q) (h28 : ¬ ((0 : Int32) ≤ (lg_cmp ((g14 i14) - (g23 i23)) l6)) → mi_W d 183 153 [some (.ref l1), some (.int l2), some (.int l3), some (.int l4), some (.int l5), some (.long l6), none, some (.int l7), some (.int l8)] [] (n, sl, f) Q) : mi_W d 183 132 [some (.ref l1), some (.int l2), some (.int l3), some (.int l4), some (.int l5), some (.long l6), none, some (.int l7), some (.int l8)] [] (n, sl, f) Q := by
  refine w_aload_n cd_183_132 rfl ?_
  refine w_getfield cd_183_133 (show mt_f 12 175 = some (12, 56) by decide +kernel) h10 h11 h13 ?_
  refine w_iload cd_183_136 rfl ?_
  refine w_laload cd_183_138 h15 h16 h17 ?_
  refine w_aload_n cd_183_139 rfl ?_
  refine w_getfield cd_183_140 (show mt_f 12 172 = some (12, 55) by decide +kernel) h19 h20 h22 ?_
  refine w_iload cd_183_143 rfl ?_
  refine w_laload cd_183_145 h24 h25 h26 ?_
  refine w_lsub cd_183_146 ?_
  refine w_lload cd_183_147 rfl ?_
  refine w_lcmp cd_183_149 ?_
  exact w_ifge cd_183_150 (by decide) h27 h28
theorem b_183_153 {d : Nat} {Q : (Option Value ⊕ Nat) → mi_H → Prop} (n sl : Nat) (f : Nat → mi_C) {l1 : Nat} {l2 : Int32} {l3 : Int32} {l4 : Int32} {l5 : Int32} {l6 : Int64} {l7 : Int32} {l8 : Int32} (h9 : Q (.inl (some (.int 7))) (n, sl, f)) : mi_W d 183 153 [some (.ref l1), some (.int l2), some (.int l3), some (.int l4), some (.int l5), some (.long l6), none, some (.int l7), some (.int l8)] [] (n, sl, f) Q := by
  refine w_bipush (v := 7) cd_183_153 (by decide) ?_
  exact w_ireturn_i cd_183_155 (by decide +kernel) h9
theorem b_183_156 {d : Nat} {Q : (Option Value ⊕ Nat) → mi_H → Prop} (n sl : Nat) (f : Nat → mi_C) {l1 : Nat} {l2 : Int32} {l3 : Int32} {l4 : Int32} {l5 : Int32} {l6 : Int64} {l7 : Int32} {l8 : Int32} {fs9 : List Value} {x12 : Nat} (m14 i14 : Nat) (g14 : Nat → Int64) (m18 i18 : Nat) (g18 : Nat → Int64) {fs22 : List Value} {x25 : Nat} {fs27 : List Value} {x30 : Nat} (m32 i32 : Nat) (g32 : Nat → Int64) (m36 i36 : Nat) (g36 : Nat → Int64) {fs40 : List Value} {x43 : Nat} {fs45 : List Value} {x48 : Nat} (m50 i50 : Nat) (g50 : Nat → Int64) (h10 : f l1 = .inr (12, fs9)) (h11 : l1 < n) (h13 : fs9[55]? = some (.ref x12)) (h15 : f x12 = .inl (3, m14, .inr (.inl g14))) (h16 : x12 < n) (h17 : mi_ix l8 m14 i14) (h19 : f x12 = .inl (3, m18, .inr (.inl g18))) (h20 : x12 < n) (h21 : mi_ix l8 m18 i18) (h23 : (va_up f x12 (.inl (3, m18, .inr (.inl (vp_updL g18 i18 ((g14 i14) + l6)))))) l1 = .inr (12, fs22)) (h24 : l1 < n) (h26 : fs22[43]? = some (.ref x25)) (h28 : (va_up f x12 (.inl (3, m18, .inr (.inl (vp_updL g18 i18 ((g14 i14) + l6)))))) x25 = .inr (13, fs27)) (h29 : x25 < n) (h31 : fs27[2]? = some (.ref x30)) (h33 : (va_up f x12 (.inl (3, m18, .inr (.inl (vp_updL g18 i18 ((g14 i14) + l6)))))) x30 = .inl (3, m32, .inr (.inl g32))) (h34 : x30 < n) (h35 : mi_ix l7 m32 i32) (h37 : (va_up f x12 (.inl (3, m18, .inr (.inl (vp_updL g18 i18 ((g14 i14) + l6)))))) x30 = .inl (3, m36, .inr (.inl g36))) (h38 : x30 < n) (h39 : mi_ix l7 m36 i36) (h41 : (va_up (va_up f x12 (.inl (3, m18, .inr (.inl (vp_updL g18 i18 ((g14 i14) + l6)))))) x30 (.inl (3, m36, .inr (.inl (vp_updL g36 i36 ((g32 i32) + l6)))))) l1 = .inr (12, fs40)) (h42 : l1 < n) (h44 : fs40[43]? = some (.ref x43)) (h46 : (va_up (va_up f x12 (.inl (3, m18, .inr (.inl (vp_updL g18 i18 ((g14 i14) + l6)))))) x30 (.inl (3, m36, .inr (.inl (vp_updL g36 i36 ((g32 i32) + l6)))))) x43 = .inr (13, fs45)) (h47 : x43 < n) (h49 : fs45[2]? = some (.ref x48)) (h51 : (va_up (va_up f x12 (.inl (3, m18, .inr (.inl (vp_updL g18 i18 ((g14 i14) + l6)))))) x30 (.inl (3, m36, .inr (.inl (vp_updL g36 i36 ((g32 i32) + l6)))))) x48 = .inl (3, m50, .inr (.inl g50))) (h52 : x48 < n) (h53 : mi_ix l7 m50 i50) (h54 : (0 : Int32) < (lg_cmp (g50 i50) 4611686018427387904) → mi_W d 183 215 [some (.ref l1), some (.int l2), some (.int l3), some (.int l4), some (.int l5), some (.long l6), none, some (.int l7), some (.int l8)] [] (n, sl, (va_up (va_up f x12 (.inl (3, m18, .inr (.inl (vp_updL g18 i18 ((g14 i14) + l6)))))) x30 (.inl (3, m36, .inr (.inl (vp_updL g36 i36 ((g32 i32) + l6))))))) Q) (h55 : ¬ ((0 : Int32) < (lg_cmp (g50 i50) 4611686018427387904)) → mi_W d 183 200 [some (.ref l1), some (.int l2), some (.int l3), some (.int l4), some (.int l5), some (.long l6), none, some (.int l7), some (.int l8)] [] (n, sl, (va_up (va_up f x12 (.inl (3, m18, .inr (.inl (vp_updL g18 i18 ((g14 i14) + l6)))))) x30 (.inl (3, m36, .inr (.inl (vp_updL g36 i36 ((g32 i32) + l6))))))) Q) : mi_W d 183 156 [some (.ref l1), some (.int l2), some (.int l3), some (.int l4), some (.int l5), some (.long l6), none, some (.int l7), some (.int l8)] [] (n, sl, f) Q := by
  refine w_aload_n cd_183_156 rfl ?_
  refine w_getfield cd_183_157 (show mt_f 12 172 = some (12, 55) by decide +kernel) h10 h11 h13 ?_
  refine w_iload cd_183_160 rfl ?_
  refine w_dup2_ir cd_183_162 ?_
  refine w_laload cd_183_163 h15 h16 h17 ?_
  refine w_lload cd_183_164 rfl ?_
  refine w_ladd cd_183_166 ?_
  refine w_lastore cd_183_167 h19 h20 h21 ?_
  refine w_aload_n cd_183_168 rfl ?_
  refine w_getfield cd_183_169 (show mt_f 12 445 = some (12, 43) by decide +kernel) h23 h24 h26 ?_
  refine w_getfield cd_183_172 (show mt_f 12 448 = some (13, 2) by decide +kernel) h28 h29 h31 ?_
  refine w_iload cd_183_175 rfl ?_
  refine w_dup2_ir cd_183_177 ?_
  refine w_laload cd_183_178 h33 h34 h35 ?_
  refine w_lload cd_183_179 rfl ?_
  refine w_ladd cd_183_181 ?_
  refine w_lastore cd_183_182 h37 h38 h39 ?_
  refine w_aload_n cd_183_183 rfl ?_
  refine w_getfield cd_183_184 (show mt_f 12 445 = some (12, 43) by decide +kernel) h41 h42 h44 ?_
  refine w_getfield cd_183_187 (show mt_f 12 448 = some (13, 2) by decide +kernel) h46 h47 h49 ?_
  refine w_iload cd_183_190 rfl ?_
  refine w_laload cd_183_192 h51 h52 h53 ?_
  refine w_ldc2_w (lv := 4611686018427387904) cd_183_193 (by decide +kernel) ?_
  refine w_lcmp cd_183_196 ?_
  exact w_ifgt cd_183_197 (by decide) h54 h55
theorem b_183_200 {d : Nat} {Q : (Option Value ⊕ Nat) → mi_H → Prop} (n sl : Nat) (f : Nat → mi_C) {l1 : Nat} {l2 : Int32} {l3 : Int32} {l4 : Int32} {l5 : Int32} {l6 : Int64} {l7 : Int32} {l8 : Int32} {fs9 : List Value} {x12 : Nat} {fs14 : List Value} {x17 : Nat} (m19 i19 : Nat) (g19 : Nat → Int64) (h10 : f l1 = .inr (12, fs9)) (h11 : l1 < n) (h13 : fs9[43]? = some (.ref x12)) (h15 : f x12 = .inr (13, fs14)) (h16 : x12 < n) (h18 : fs14[2]? = some (.ref x17)) (h20 : f x17 = .inl (3, m19, .inr (.inl g19))) (h21 : x17 < n) (h22 : mi_ix l7 m19 i19) (h23 : (0 : Int32) ≤ (lg_cmp (g19 i19) 0) → mi_W d 183 218 [some (.ref l1), some (.int l2), some (.int l3), some (.int l4), some (.int l5), some (.long l6), none, some (.int l7), some (.int l8)] [] (n, sl, f) Q) (h24 : ¬ ((0 : Int32) ≤ (lg_cmp (g19 i19) 0)) → mi_W d 183 215 [some (.ref l1), some (.int l2), some (.int l3), some (.int l4), some (.int l5), some (.long l6), none, some (.int l7), some (.int l8)] [] (n, sl, f) Q) : mi_W d 183 200 [some (.ref l1), some (.int l2), some (.int l3), some (.int l4), some (.int l5), some (.long l6), none, some (.int l7), some (.int l8)] [] (n, sl, f) Q := by
  refine w_aload_n cd_183_200 rfl ?_
  refine w_getfield cd_183_201 (show mt_f 12 445 = some (12, 43) by decide +kernel) h10 h11 h13 ?_
  refine w_getfield cd_183_204 (show mt_f 12 448 = some (13, 2) by decide +kernel) h15 h16 h18 ?_
  refine w_iload cd_183_207 rfl ?_
  refine w_laload cd_183_209 h20 h21 h22 ?_
  refine w_lconst (lv := 0) cd_183_210 (by decide) ?_
  refine w_lcmp cd_183_211 ?_
  exact w_ifge cd_183_212 (by decide) h23 h24
theorem b_183_215 {d : Nat} {Q : (Option Value ⊕ Nat) → mi_H → Prop} (n sl : Nat) (f : Nat → mi_C) {l1 : Nat} {l2 : Int32} {l3 : Int32} {l4 : Int32} {l5 : Int32} {l6 : Int64} {l7 : Int32} {l8 : Int32} (h9 : Q (.inl (some (.int 6))) (n, sl, f)) : mi_W d 183 215 [some (.ref l1), some (.int l2), some (.int l3), some (.int l4), some (.int l5), some (.long l6), none, some (.int l7), some (.int l8)] [] (n, sl, f) Q := by
  refine w_bipush (v := 6) cd_183_215 (by decide) ?_
  exact w_ireturn_i cd_183_217 (by decide +kernel) h9
theorem b_183_218 {d : Nat} {Q : (Option Value ⊕ Nat) → mi_H → Prop} (n sl : Nat) (f : Nat → mi_C) {l1 : Nat} {l2 : Int32} {l3 : Int32} {l4 : Int32} {l5 : Int32} {l6 : Int64} {l7 : Int32} {l8 : Int32} (h9 : mi_W d 183 267 [some (.ref l1), some (.int l2), some (.int l3), some (.int l4), some (.int l5), some (.long l6), none, some (.int l7), some (.int l8)] [] (n, sl, f) Q) : mi_W d 183 218 [some (.ref l1), some (.int l2), some (.int l3), some (.int l4), some (.int l5), some (.long l6), none, some (.int l7), some (.int l8)] [] (n, sl, f) Q := by
  exact w_goto cd_183_218 (by decide) h9
theorem b_183_221 {d : Nat} {Q : (Option Value ⊕ Nat) → mi_H → Prop} (n sl : Nat) (f : Nat → mi_C) {l1 : Nat} {l2 : Int32} {l3 : Int32} {l4 : Int32} {l5 : Int32} {o6 : Option Value} {o7 : Option Value} {o8 : Option Value} {o9 : Option Value} {fs10 : List Value} {x13 : Nat} (m15 i15 : Nat) (g15 : Nat → Int32) (h11 : f l1 = .inr (12, fs10)) (h12 : l1 < n) (h14 : fs10[12]? = some (.ref x13)) (h16 : f x13 = .inl (0, m15, .inl g15)) (h17 : x13 < n ∨ x13 = mi_SC) (h18 : mi_ix l4 m15 i15) (h19 : ¬ (g15 i15) = 8 → mi_W d 183 267 [some (.ref l1), some (.int l2), some (.int l3), some (.int l4), some (.int l5), o6, o7, o8, o9] [] (n, sl, f) Q) (h20 : ¬ (¬ (g15 i15) = 8) → mi_W d 183 232 [some (.ref l1), some (.int l2), some (.int l3), some (.int l4), some (.int l5), o6, o7, o8, o9] [] (n, sl, f) Q) : mi_W d 183 221 [some (.ref l1), some (.int l2), some (.int l3), some (.int l4), some (.int l5), o6, o7, o8, o9] [] (n, sl, f) Q := by
  refine w_aload_n cd_183_221 rfl ?_
  refine w_getfield cd_183_222 (show mt_f 12 77 = some (12, 12) by decide +kernel) h11 h12 h14 ?_
  refine w_iload_n cd_183_225 rfl ?_
  refine w_iaload cd_183_226 h16 h17 h18 ?_
  refine w_bipush (v := 8) cd_183_227 (by decide) ?_
  exact w_if_icmpne cd_183_229 (by decide) h19 h20
theorem b_183_232 {d : Nat} {Q : (Option Value ⊕ Nat) → mi_H → Prop} (n sl : Nat) (f : Nat → mi_C) {l1 : Nat} {l2 : Int32} {l3 : Int32} {l4 : Int32} {l5 : Int32} {o6 : Option Value} {o7 : Option Value} {o8 : Option Value} {o9 : Option Value} {fs10 : List Value} {x13 : Nat} {fs15 : List Value} {x18 : Nat} {fs20 : List Value} {x23 : Nat} (m25 i25 : Nat) (g25 : Nat → Int32) (m29 i29 : Nat) (g29 : Nat → Int32) {fs33 : List Value} {x36 : Nat} {fs38 : List Value} {x41 : Nat} {fs43 : List Value} {x46 : Nat} (m48 i48 : Nat) (g48 : Nat → Int32) {fs52 : List Value} {x55 : Nat} (m57 i57 : Nat) (g57 : Nat → Int64) (m61 i61 : Nat) (g61 : Nat → Int64) (h11 : f l1 = .inr (12, fs10)) (h12 : l1 < n) (h14 : fs10[43]? = some (.ref x13)) (h16 : f x13 = .inr (13, fs15)) (h17 : x13 < n) (h19 : fs15[5]? = some (.ref x18)) (h21 : f l1 = .inr (12, fs20)) (h22 : l1 < n) (h24 : fs20[13]? = some (.ref x23)) (h26 : f x23 = .inl (0, m25, .inl g25)) (h27 : x23 < n ∨ x23 = mi_SC) (h28 : mi_ix l4 m25 i25) (h30 : f x18 = .inl (2, m29, .inl g29)) (h31 : x18 < n) (h32 : mi_ix (g25 i25) m29 i29) (h34 : (va_up f x18 (.inl (2, m29, .inl (upd g29 i29 (vp_nar .boolean 1))))) l1 = .inr (12, fs33)) (h35 : l1 < n) (h37 : fs33[43]? = some (.ref x36)) (h39 : (va_up f x18 (.inl (2, m29, .inl (upd g29 i29 (vp_nar .boolean 1))))) x36 = .inr (13, fs38)) (h40 : x36 < n) (h42 : fs38[3]? = some (.ref x41)) (h44 : (va_up f x18 (.inl (2, m29, .inl (upd g29 i29 (vp_nar .boolean 1))))) l1 = .inr (12, fs43)) (h45 : l1 < n) (h47 : fs43[13]? = some (.ref x46)) (h49 : (va_up f x18 (.inl (2, m29, .inl (upd g29 i29 (vp_nar .boolean 1))))) x46 = .inl (0, m48, .inl g48)) (h50 : x46 < n ∨ x46 = mi_SC) (h51 : mi_ix l4 m48 i48) (h53 : (va_up f x18 (.inl (2, m29, .inl (upd g29 i29 (vp_nar .boolean 1))))) l1 = .inr (12, fs52)) (h54 : l1 < n) (h56 : fs52[64]? = some (.ref x55)) (h58 : (va_up f x18 (.inl (2, m29, .inl (upd g29 i29 (vp_nar .boolean 1))))) x55 = .inl (3, m57, .inr (.inl g57))) (h59 : x55 < n) (h60 : mi_ix l2 m57 i57) (h62 : (va_up f x18 (.inl (2, m29, .inl (upd g29 i29 (vp_nar .boolean 1))))) x41 = .inl (3, m61, .inr (.inl g61))) (h63 : x41 < n) (h64 : mi_ix (g48 i48) m61 i61) (h65 : mi_W d 183 267 [some (.ref l1), some (.int l2), some (.int l3), some (.int l4), some (.int l5), o6, o7, o8, o9] [] (n, sl, (va_up (va_up f x18 (.inl (2, m29, .inl (upd g29 i29 (vp_nar .boolean 1))))) x41 (.inl (3, m61, .inr (.inl (vp_updL g61 i61 (g57 i57))))))) Q) : mi_W d 183 232 [some (.ref l1), some (.int l2), some (.int l3), some (.int l4), some (.int l5), o6, o7, o8, o9] [] (n, sl, f) Q := by
  refine w_aload_n cd_183_232 rfl ?_
  refine w_getfield cd_183_233 (show mt_f 12 445 = some (12, 43) by decide +kernel) h11 h12 h14 ?_
  refine w_getfield cd_183_236 (show mt_f 12 459 = some (13, 5) by decide +kernel) h16 h17 h19 ?_
  refine w_aload_n cd_183_239 rfl ?_
  refine w_getfield cd_183_240 (show mt_f 12 80 = some (12, 13) by decide +kernel) h21 h22 h24 ?_
  refine w_iload_n cd_183_243 rfl ?_
  refine w_iaload cd_183_244 h26 h27 h28 ?_
  refine w_iconst (v := 1) cd_183_245 (by decide) ?_
  refine w_bastore2 cd_183_246 h30 h31 h32 ?_
  refine w_aload_n cd_183_247 rfl ?_
  refine w_getfield cd_183_248 (show mt_f 12 445 = some (12, 43) by decide +kernel) h34 h35 h37 ?_
  refine w_getfield cd_183_251 (show mt_f 12 463 = some (13, 3) by decide +kernel) h39 h40 h42 ?_
  refine w_aload_n cd_183_254 rfl ?_
  refine w_getfield cd_183_255 (show mt_f 12 80 = some (12, 13) by decide +kernel) h44 h45 h47 ?_
  refine w_iload_n cd_183_258 rfl ?_
  refine w_iaload cd_183_259 h49 h50 h51 ?_
  refine w_aload_n cd_183_260 rfl ?_
  refine w_getfield cd_183_261 (show mt_f 12 190 = some (12, 64) by decide +kernel) h53 h54 h56 ?_
  refine w_iload_n cd_183_264 rfl ?_
  refine w_laload cd_183_265 h58 h59 h60 ?_
  refine w_lastore cd_183_266 h62 h63 h64 ?_
  exact h65
theorem b_183_267 {d : Nat} {Q : (Option Value ⊕ Nat) → mi_H → Prop} (n sl : Nat) (f : Nat → mi_C) {l1 : Nat} {l2 : Int32} {l3 : Int32} {l4 : Int32} {l5 : Int32} {o6 : Option Value} {o7 : Option Value} {o8 : Option Value} {o9 : Option Value} {fs10 : List Value} {x13 : Nat} {fs15 : List Value} {x18 : Nat} (m20 i20 : Nat) (g20 : Nat → Int32) {fs24 : List Value} (h11 : f l1 = .inr (12, fs10)) (h12 : l1 < n) (h14 : fs10[43]? = some (.ref x13)) (h16 : f l1 = .inr (12, fs15)) (h17 : l1 < n) (h19 : fs15[19]? = some (.ref x18)) (h21 : f x18 = .inl (0, m20, .inl g20)) (h22 : x18 < n ∨ x18 = mi_SC) (h23 : mi_ix l4 m20 i20) (h25 : f x13 = .inr (13, fs24)) (h26 : x13 < n) (h27 : 0 < fs24.length) (h28 : Q (.inl (some (.int 0))) (n, sl, (va_up f x13 (.inr (13, fs24.set 0 (.int (g20 i20))))))) : mi_W d 183 267 [some (.ref l1), some (.int l2), some (.int l3), some (.int l4), some (.int l5), o6, o7, o8, o9] [] (n, sl, f) Q := by
  refine w_aload_n cd_183_267 rfl ?_
  refine w_getfield cd_183_268 (show mt_f 12 445 = some (12, 43) by decide +kernel) h11 h12 h14 ?_
  refine w_aload_n cd_183_271 rfl ?_
  refine w_getfield cd_183_272 (show mt_f 12 98 = some (12, 19) by decide +kernel) h16 h17 h19 ?_
  refine w_iload_n cd_183_275 rfl ?_
  refine w_iaload cd_183_276 h21 h22 h23 ?_
  refine w_putfield (w := .int (g20 i20)) cd_183_277 (show mt_f 12 496 = some (13, 0) by decide +kernel) h25 h26 ⟨h27, rfl, Or.inl (by decide)⟩ ?_
  refine w_iconst (v := 0) cd_183_280 (by decide) ?_
  exact w_ireturn_i cd_183_281 (by decide +kernel) h28
theorem b_183_282 {d : Nat} {Q : (Option Value ⊕ Nat) → mi_H → Prop} (n sl : Nat) (f : Nat → mi_C) {l1 : Nat} {l2 : Int32} {l3 : Int32} {l4 : Int32} {l5 : Int32} {o6 : Option Value} {o7 : Option Value} {o8 : Option Value} {o9 : Option Value} {fs10 : List Value} {x13 : Nat} (m15 i15 : Nat) (g15 : Nat → Int32) (h11 : f l1 = .inr (12, fs10)) (h12 : l1 < n) (h14 : fs10[39]? = some (.ref x13)) (h16 : f x13 = .inl (0, m15, .inl g15)) (h17 : x13 < n ∨ x13 = mi_SC) (h18 : mi_ix l4 m15 i15) (h19 : mi_W d 183 27 [some (.ref l1), some (.int l2), some (.int l3), some (.int (g15 i15)), some (.int l5), o6, o7, o8, o9] [] (n, sl, f) Q) : mi_W d 183 282 [some (.ref l1), some (.int l2), some (.int l3), some (.int l4), some (.int l5), o6, o7, o8, o9] [] (n, sl, f) Q := by
  refine w_aload_n cd_183_282 rfl ?_
  refine w_getfield cd_183_283 (show mt_f 12 138 = some (12, 39) by decide +kernel) h11 h12 h14 ?_
  refine w_iload_n cd_183_286 rfl ?_
  refine w_iaload cd_183_287 h16 h17 h18 ?_
  refine w_istore_n (ls' := [some (.ref l1), some (.int l2), some (.int l3), some (.int (g15 i15)), some (.int l5), o6, o7, o8, o9]) cd_183_288 (Nat.le_of_ble_eq_true rfl) rfl ?_
  exact w_goto cd_183_289 (by decide) h19
theorem b_183_292 {d : Nat} {Q : (Option Value ⊕ Nat) → mi_H → Prop} (n sl : Nat) (f : Nat → mi_C) {l1 : Nat} {l2 : Int32} {l3 : Int32} {l4 : Int32} {o5 : Option Value} {o6 : Option Value} {o7 : Option Value} {o8 : Option Value} {o9 : Option Value} (h10 : Q (.inl (some (.int 4))) (n, sl, f)) : mi_W d 183 292 [some (.ref l1), some (.int l2), some (.int l3), some (.int l4), o5, o6, o7, o8, o9] [] (n, sl, f) Q := by
  refine w_iconst (v := 4) cd_183_292 (by decide) ?_
  exact w_ireturn_i cd_183_293 (by decide +kernel) h10
/-! MarloweHostModel.fits(II)I -/
set_option maxRecDepth 100000 in
theorem mq_184 : mt_q 184 = my_184 := rfl
set_option maxRecDepth 100000 in
theorem ci_184 : mt_inc 0 my_184.cd = true := by decide +kernel
theorem cd_184_0 : mt_cd 184 0 = some (.aload_n 0) := mt_cd_of (q := (0, .aload_n 0, 1)) mq_184 ci_184 (List.mem_append_left _ (show _ ∈ my_184_0 from List.mem_of_getElem? (i := 0) rfl))
theorem cd_184_1 : mt_cd 184 1 = some (.iconst 0) := mt_cd_of (q := (1, .iconst 0, 1)) mq_184 ci_184 (List.mem_append_left _ (show _ ∈ my_184_0 from List.mem_of_getElem? (i := 1) rfl))
theorem cd_184_2 : mt_cd 184 2 = some (.putfield 441) := mt_cd_of (q := (2, .putfield 441, 3)) mq_184 ci_184 (List.mem_append_left _ (show _ ∈ my_184_0 from List.mem_of_getElem? (i := 2) rfl))
theorem cd_184_5 : mt_cd 184 5 = some (.aload_n 0) := mt_cd_of (q := (5, .aload_n 0, 1)) mq_184 ci_184 (List.mem_append_left _ (show _ ∈ my_184_0 from List.mem_of_getElem? (i := 3) rfl))
theorem cd_184_6 : mt_cd 184 6 = some (.getfield 178) := mt_cd_of (q := (6, .getfield 178, 3)) mq_184 ci_184 (List.mem_append_left _ (show _ ∈ my_184_0 from List.mem_of_getElem? (i := 4) rfl))
theorem cd_184_9 : mt_cd 184 9 = some (.iload_n 2) := mt_cd_of (q := (9, .iload_n 2, 1)) mq_184 ci_184 (List.mem_append_left _ (show _ ∈ my_184_0 from List.mem_of_getElem? (i := 5) rfl))
theorem cd_184_10 : mt_cd 184 10 = some (.iaload) := mt_cd_of (q := (10, .iaload, 1)) mq_184 ci_184 (List.mem_append_left _ (show _ ∈ my_184_0 from List.mem_of_getElem? (i := 6) rfl))
theorem cd_184_11 : mt_cd 184 11 = some (.aload_n 0) := mt_cd_of (q := (11, .aload_n 0, 1)) mq_184 ci_184 (List.mem_append_left _ (show _ ∈ my_184_0 from List.mem_of_getElem? (i := 7) rfl))
theorem cd_184_12 : mt_cd 184 12 = some (.getfield 77) := mt_cd_of (q := (12, .getfield 77, 3)) mq_184 ci_184 (List.mem_append_left _ (show _ ∈ my_184_0 from List.mem_of_getElem? (i := 8) rfl))
theorem cd_184_15 : mt_cd 184 15 = some (.iload_n 1) := mt_cd_of (q := (15, .iload_n 1, 1)) mq_184 ci_184 (List.mem_append_left _ (show _ ∈ my_184_0 from List.mem_of_getElem? (i := 9) rfl))
theorem cd_184_16 : mt_cd 184 16 = some (.iaload) := mt_cd_of (q := (16, .iaload, 1)) mq_184 ci_184 (List.mem_append_left _ (show _ ∈ my_184_0 from List.mem_of_getElem? (i := 10) rfl))
theorem cd_184_17 : mt_cd 184 17 = some (.if_icmp .eq 5) := mt_cd_of (q := (17, .if_icmp .eq 5, 3)) mq_184 ci_184 (List.mem_append_left _ (show _ ∈ my_184_0 from List.mem_of_getElem? (i := 11) rfl))
theorem cd_184_20 : mt_cd 184 20 = some (.iconst 0) := mt_cd_of (q := (20, .iconst 0, 1)) mq_184 ci_184 (List.mem_append_left _ (show _ ∈ my_184_0 from List.mem_of_getElem? (i := 12) rfl))
theorem cd_184_21 : mt_cd 184 21 = some (.ireturn) := mt_cd_of (q := (21, .ireturn, 1)) mq_184 ci_184 (List.mem_append_left _ (show _ ∈ my_184_0 from List.mem_of_getElem? (i := 13) rfl))
theorem cd_184_22 : mt_cd 184 22 = some (.aload_n 0) := mt_cd_of (q := (22, .aload_n 0, 1)) mq_184 ci_184 (List.mem_append_left _ (show _ ∈ my_184_0 from List.mem_of_getElem? (i := 14) rfl))
theorem cd_184_23 : mt_cd 184 23 = some (.getfield 77) := mt_cd_of (q := (23, .getfield 77, 3)) mq_184 ci_184 (List.mem_append_left _ (show _ ∈ my_184_0 from List.mem_of_getElem? (i := 15) rfl))
theorem cd_184_26 : mt_cd 184 26 = some (.iload_n 1) := mt_cd_of (q := (26, .iload_n 1, 1)) mq_184 ci_184 (List.mem_append_left _ (show _ ∈ my_184_0 from List.mem_of_getElem? (i := 16) rfl))
theorem cd_184_27 : mt_cd 184 27 = some (.iaload) := mt_cd_of (q := (27, .iaload, 1)) mq_184 ci_184 (List.mem_append_left _ (show _ ∈ my_184_0 from List.mem_of_getElem? (i := 17) rfl))
theorem cd_184_28 : mt_cd 184 28 = some (.bipush 9) := mt_cd_of (q := (28, .bipush 9, 2)) mq_184 ci_184 (List.mem_append_left _ (show _ ∈ my_184_0 from List.mem_of_getElem? (i := 18) rfl))
theorem cd_184_30 : mt_cd 184 30 = some (.if_icmp .ne 36) := mt_cd_of (q := (30, .if_icmp .ne 36, 3)) mq_184 ci_184 (List.mem_append_left _ (show _ ∈ my_184_0 from List.mem_of_getElem? (i := 19) rfl))
theorem cd_184_33 : mt_cd 184 33 = some (.aload_n 0) := mt_cd_of (q := (33, .aload_n 0, 1)) mq_184 ci_184 (List.mem_append_left _ (show _ ∈ my_184_0 from List.mem_of_getElem? (i := 20) rfl))
theorem cd_184_34 : mt_cd 184 34 = some (.aload_n 0) := mt_cd_of (q := (34, .aload_n 0, 1)) mq_184 ci_184 (List.mem_append_left _ (show _ ∈ my_184_0 from List.mem_of_getElem? (i := 21) rfl))
theorem cd_184_35 : mt_cd 184 35 = some (.getfield 89) := mt_cd_of (q := (35, .getfield 89, 3)) mq_184 ci_184 (List.mem_append_left _ (show _ ∈ my_184_0 from List.mem_of_getElem? (i := 22) rfl))
theorem cd_184_38 : mt_cd 184 38 = some (.iload_n 1) := mt_cd_of (q := (38, .iload_n 1, 1)) mq_184 ci_184 (List.mem_append_left _ (show _ ∈ my_184_0 from List.mem_of_getElem? (i := 23) rfl))
theorem cd_184_39 : mt_cd 184 39 = some (.iaload) := mt_cd_of (q := (39, .iaload, 1)) mq_184 ci_184 (List.mem_append_left _ (show _ ∈ my_184_0 from List.mem_of_getElem? (i := 24) rfl))
theorem cd_184_40 : mt_cd 184 40 = some (.invokevirtual 477) := mt_cd_of (q := (40, .invokevirtual 477, 3)) mq_184 ci_184 (List.mem_append_left _ (show _ ∈ my_184_0 from List.mem_of_getElem? (i := 25) rfl))
theorem cd_184_43 : mt_cd 184 43 = some (.istore_n 3) := mt_cd_of (q := (43, .istore_n 3, 1)) mq_184 ci_184 (List.mem_append_left _ (show _ ∈ my_184_0 from List.mem_of_getElem? (i := 26) rfl))
theorem cd_184_44 : mt_cd 184 44 = some (.aload_n 0) := mt_cd_of (q := (44, .aload_n 0, 1)) mq_184 ci_184 (List.mem_append_left _ (show _ ∈ my_184_0 from List.mem_of_getElem? (i := 27) rfl))
theorem cd_184_45 : mt_cd 184 45 = some (.getfield 441) := mt_cd_of (q := (45, .getfield 441, 3)) mq_184 ci_184 (List.mem_append_left _ (show _ ∈ my_184_0 from List.mem_of_getElem? (i := 28) rfl))
theorem cd_184_48 : mt_cd 184 48 = some (.ifCond .eq 8) := mt_cd_of (q := (48, .ifCond .eq 8, 3)) mq_184 ci_184 (List.mem_append_left _ (show _ ∈ my_184_0 from List.mem_of_getElem? (i := 29) rfl))
theorem cd_184_51 : mt_cd 184 51 = some (.bipush 6) := mt_cd_of (q := (51, .bipush 6, 2)) mq_184 ci_184 (List.mem_append_left _ (show _ ∈ my_184_0 from List.mem_of_getElem? (i := 30) rfl))
theorem cd_184_53 : mt_cd 184 53 = some (.goto 12) := mt_cd_of (q := (53, .goto 12, 3)) mq_184 ci_184 (List.mem_append_left _ (show _ ∈ my_184_0 from List.mem_of_getElem? (i := 31) rfl))
theorem cd_184_56 : mt_cd 184 56 = some (.iload_n 3) := mt_cd_of (q := (56, .iload_n 3, 1)) mq_184 ci_184 (List.mem_append_left _ (show _ ∈ my_184_0 from List.mem_of_getElem? (i := 32) rfl))
theorem cd_184_57 : mt_cd 184 57 = some (.ifCond .eq 7) := mt_cd_of (q := (57, .ifCond .eq 7, 3)) mq_184 ci_184 (List.mem_append_left _ (show _ ∈ my_184_0 from List.mem_of_getElem? (i := 33) rfl))
theorem cd_184_60 : mt_cd 184 60 = some (.iconst 1) := mt_cd_of (q := (60, .iconst 1, 1)) mq_184 ci_184 (List.mem_append_left _ (show _ ∈ my_184_0 from List.mem_of_getElem? (i := 34) rfl))
theorem cd_184_61 : mt_cd 184 61 = some (.goto 4) := mt_cd_of (q := (61, .goto 4, 3)) mq_184 ci_184 (List.mem_append_left _ (show _ ∈ my_184_0 from List.mem_of_getElem? (i := 35) rfl))
theorem cd_184_64 : mt_cd 184 64 = some (.iconst 0) := mt_cd_of (q := (64, .iconst 0, 1)) mq_184 ci_184 (List.mem_append_left _ (show _ ∈ my_184_0 from List.mem_of_getElem? (i := 36) rfl))
theorem cd_184_65 : mt_cd 184 65 = some (.ireturn) := mt_cd_of (q := (65, .ireturn, 1)) mq_184 ci_184 (List.mem_append_left _ (show _ ∈ my_184_0 from List.mem_of_getElem? (i := 37) rfl))
theorem cd_184_66 : mt_cd 184 66 = some (.aload_n 0) := mt_cd_of (q := (66, .aload_n 0, 1)) mq_184 ci_184 (List.mem_append_left _ (show _ ∈ my_184_0 from List.mem_of_getElem? (i := 38) rfl))
theorem cd_184_67 : mt_cd 184 67 = some (.getfield 77) := mt_cd_of (q := (67, .getfield 77, 3)) mq_184 ci_184 (List.mem_append_left _ (show _ ∈ my_184_0 from List.mem_of_getElem? (i := 39) rfl))
theorem cd_184_70 : mt_cd 184 70 = some (.iload_n 1) := mt_cd_of (q := (70, .iload_n 1, 1)) mq_184 ci_184 (List.mem_append_left _ (show _ ∈ my_184_0 from List.mem_of_getElem? (i := 40) rfl))
theorem cd_184_71 : mt_cd 184 71 = some (.iaload) := mt_cd_of (q := (71, .iaload, 1)) mq_184 ci_184 (List.mem_append_left _ (show _ ∈ my_184_0 from List.mem_of_getElem? (i := 41) rfl))
theorem cd_184_72 : mt_cd 184 72 = some (.bipush 8) := mt_cd_of (q := (72, .bipush 8, 2)) mq_184 ci_184 (List.mem_append_left _ (show _ ∈ my_184_0 from List.mem_of_getElem? (i := 42) rfl))
theorem cd_184_74 : mt_cd 184 74 = some (.if_icmp .ne 78) := mt_cd_of (q := (74, .if_icmp .ne 78, 3)) mq_184 ci_184 (List.mem_append_left _ (show _ ∈ my_184_0 from List.mem_of_getElem? (i := 43) rfl))
theorem cd_184_77 : mt_cd 184 77 = some (.aload_n 0) := mt_cd_of (q := (77, .aload_n 0, 1)) mq_184 ci_184 (List.mem_append_left _ (show _ ∈ my_184_0 from List.mem_of_getElem? (i := 44) rfl))
theorem cd_184_78 : mt_cd 184 78 = some (.getfield 181) := mt_cd_of (q := (78, .getfield 181, 3)) mq_184 ci_184 (List.mem_append_left _ (show _ ∈ my_184_0 from List.mem_of_getElem? (i := 45) rfl))
theorem cd_184_81 : mt_cd 184 81 = some (.iload_n 2) := mt_cd_of (q := (81, .iload_n 2, 1)) mq_184 ci_184 (List.mem_append_left _ (show _ ∈ my_184_0 from List.mem_of_getElem? (i := 46) rfl))
theorem cd_184_82 : mt_cd 184 82 = some (.iaload) := mt_cd_of (q := (82, .iaload, 1)) mq_184 ci_184 (List.mem_append_left _ (show _ ∈ my_184_0 from List.mem_of_getElem? (i := 47) rfl))
theorem cd_184_83 : mt_cd 184 83 = some (.aload_n 0) := mt_cd_of (q := (83, .aload_n 0, 1)) mq_184 ci_184 (List.mem_append_left _ (show _ ∈ my_184_0 from List.mem_of_getElem? (i := 48) rfl))
theorem cd_184_84 : mt_cd 184 84 = some (.getfield 80) := mt_cd_of (q := (84, .getfield 80, 3)) mq_184 ci_184 (List.mem_append_left _ (show _ ∈ my_184_0 from List.mem_of_getElem? (i := 49) rfl))
theorem cd_184_87 : mt_cd 184 87 = some (.iload_n 1) := mt_cd_of (q := (87, .iload_n 1, 1)) mq_184 ci_184 (List.mem_append_left _ (show _ ∈ my_184_0 from List.mem_of_getElem? (i := 50) rfl))
theorem cd_184_88 : mt_cd 184 88 = some (.iaload) := mt_cd_of (q := (88, .iaload, 1)) mq_184 ci_184 (List.mem_append_left _ (show _ ∈ my_184_0 from List.mem_of_getElem? (i := 51) rfl))
theorem cd_184_89 : mt_cd 184 89 = some (.if_icmp .eq 5) := mt_cd_of (q := (89, .if_icmp .eq 5, 3)) mq_184 ci_184 (List.mem_append_left _ (show _ ∈ my_184_0 from List.mem_of_getElem? (i := 52) rfl))
theorem cd_184_92 : mt_cd 184 92 = some (.iconst 0) := mt_cd_of (q := (92, .iconst 0, 1)) mq_184 ci_184 (List.mem_append_left _ (show _ ∈ my_184_0 from List.mem_of_getElem? (i := 53) rfl))
theorem cd_184_93 : mt_cd 184 93 = some (.ireturn) := mt_cd_of (q := (93, .ireturn, 1)) mq_184 ci_184 (List.mem_append_left _ (show _ ∈ my_184_0 from List.mem_of_getElem? (i := 54) rfl))
theorem cd_184_94 : mt_cd 184 94 = some (.aload_n 0) := mt_cd_of (q := (94, .aload_n 0, 1)) mq_184 ci_184 (List.mem_append_left _ (show _ ∈ my_184_0 from List.mem_of_getElem? (i := 55) rfl))
theorem cd_184_95 : mt_cd 184 95 = some (.getfield 141) := mt_cd_of (q := (95, .getfield 141, 3)) mq_184 ci_184 (List.mem_append_left _ (show _ ∈ my_184_0 from List.mem_of_getElem? (i := 56) rfl))
theorem cd_184_98 : mt_cd 184 98 = some (.iload_n 1) := mt_cd_of (q := (98, .iload_n 1, 1)) mq_184 ci_184 (List.mem_append_left _ (show _ ∈ my_184_0 from List.mem_of_getElem? (i := 57) rfl))
theorem cd_184_99 : mt_cd 184 99 = some (.iaload) := mt_cd_of (q := (99, .iaload, 1)) mq_184 ci_184 (List.mem_append_left _ (show _ ∈ my_184_0 from List.mem_of_getElem? (i := 58) rfl))
theorem cd_184_100 : mt_cd 184 100 = some (.istore_n 3) := mt_cd_of (q := (100, .istore_n 3, 1)) mq_184 ci_184 (List.mem_append_left _ (show _ ∈ my_184_0 from List.mem_of_getElem? (i := 59) rfl))
theorem cd_184_101 : mt_cd 184 101 = some (.iload_n 3) := mt_cd_of (q := (101, .iload_n 3, 1)) mq_184 ci_184 (List.mem_append_right _ (List.mem_append_left _ (show _ ∈ my_184_1 from List.mem_of_getElem? (i := 0) rfl)))
theorem cd_184_102 : mt_cd 184 102 = some (.aload_n 0) := mt_cd_of (q := (102, .aload_n 0, 1)) mq_184 ci_184 (List.mem_append_right _ (List.mem_append_left _ (show _ ∈ my_184_1 from List.mem_of_getElem? (i := 1) rfl)))
theorem cd_184_103 : mt_cd 184 103 = some (.getfield 141) := mt_cd_of (q := (103, .getfield 141, 3)) mq_184 ci_184 (List.mem_append_right _ (List.mem_append_left _ (show _ ∈ my_184_1 from List.mem_of_getElem? (i := 2) rfl)))
theorem cd_184_106 : mt_cd 184 106 = some (.iload_n 1) := mt_cd_of (q := (106, .iload_n 1, 1)) mq_184 ci_184 (List.mem_append_right _ (List.mem_append_left _ (show _ ∈ my_184_1 from List.mem_of_getElem? (i := 3) rfl)))
theorem cd_184_107 : mt_cd 184 107 = some (.iaload) := mt_cd_of (q := (107, .iaload, 1)) mq_184 ci_184 (List.mem_append_right _ (List.mem_append_left _ (show _ ∈ my_184_1 from List.mem_of_getElem? (i := 4) rfl)))
theorem cd_184_108 : mt_cd 184 108 = some (.aload_n 0) := mt_cd_of (q := (108, .aload_n 0, 1)) mq_184 ci_184 (List.mem_append_right _ (List.mem_append_left _ (show _ ∈ my_184_1 from List.mem_of_getElem? (i := 5) rfl)))
theorem cd_184_109 : mt_cd 184 109 = some (.getfield 95) := mt_cd_of (q := (109, .getfield 95, 3)) mq_184 ci_184 (List.mem_append_right _ (List.mem_append_left _ (show _ ∈ my_184_1 from List.mem_of_getElem? (i := 6) rfl)))
theorem cd_184_112 : mt_cd 184 112 = some (.iload_n 1) := mt_cd_of (q := (112, .iload_n 1, 1)) mq_184 ci_184 (List.mem_append_right _ (List.mem_append_left _ (show _ ∈ my_184_1 from List.mem_of_getElem? (i := 7) rfl)))
theorem cd_184_113 : mt_cd 184 113 = some (.iaload) := mt_cd_of (q := (113, .iaload, 1)) mq_184 ci_184 (List.mem_append_right _ (List.mem_append_left _ (show _ ∈ my_184_1 from List.mem_of_getElem? (i := 8) rfl)))
theorem cd_184_114 : mt_cd 184 114 = some (.iadd) := mt_cd_of (q := (114, .iadd, 1)) mq_184 ci_184 (List.mem_append_right _ (List.mem_append_left _ (show _ ∈ my_184_1 from List.mem_of_getElem? (i := 9) rfl)))
theorem cd_184_115 : mt_cd 184 115 = some (.if_icmp .ge 35) := mt_cd_of (q := (115, .if_icmp .ge 35, 3)) mq_184 ci_184 (List.mem_append_right _ (List.mem_append_left _ (show _ ∈ my_184_1 from List.mem_of_getElem? (i := 10) rfl)))
theorem cd_184_118 : mt_cd 184 118 = some (.aload_n 0) := mt_cd_of (q := (118, .aload_n 0, 1)) mq_184 ci_184 (List.mem_append_right _ (List.mem_append_left _ (show _ ∈ my_184_1 from List.mem_of_getElem? (i := 11) rfl)))
theorem cd_184_119 : mt_cd 184 119 = some (.getfield 190) := mt_cd_of (q := (119, .getfield 190, 3)) mq_184 ci_184 (List.mem_append_right _ (List.mem_append_left _ (show _ ∈ my_184_1 from List.mem_of_getElem? (i := 12) rfl)))
theorem cd_184_122 : mt_cd 184 122 = some (.iload_n 2) := mt_cd_of (q := (122, .iload_n 2, 1)) mq_184 ci_184 (List.mem_append_right _ (List.mem_append_left _ (show _ ∈ my_184_1 from List.mem_of_getElem? (i := 13) rfl)))
theorem cd_184_123 : mt_cd 184 123 = some (.laload) := mt_cd_of (q := (123, .laload, 1)) mq_184 ci_184 (List.mem_append_right _ (List.mem_append_left _ (show _ ∈ my_184_1 from List.mem_of_getElem? (i := 14) rfl)))
theorem cd_184_124 : mt_cd 184 124 = some (.aload_n 0) := mt_cd_of (q := (124, .aload_n 0, 1)) mq_184 ci_184 (List.mem_append_right _ (List.mem_append_left _ (show _ ∈ my_184_1 from List.mem_of_getElem? (i := 15) rfl)))
theorem cd_184_125 : mt_cd 184 125 = some (.getfield 105) := mt_cd_of (q := (125, .getfield 105, 3)) mq_184 ci_184 (List.mem_append_right _ (List.mem_append_left _ (show _ ∈ my_184_1 from List.mem_of_getElem? (i := 16) rfl)))
theorem cd_184_128 : mt_cd 184 128 = some (.iload_n 3) := mt_cd_of (q := (128, .iload_n 3, 1)) mq_184 ci_184 (List.mem_append_right _ (List.mem_append_left _ (show _ ∈ my_184_1 from List.mem_of_getElem? (i := 17) rfl)))
theorem cd_184_129 : mt_cd 184 129 = some (.laload) := mt_cd_of (q := (129, .laload, 1)) mq_184 ci_184 (List.mem_append_right _ (List.mem_append_left _ (show _ ∈ my_184_1 from List.mem_of_getElem? (i := 18) rfl)))
theorem cd_184_130 : mt_cd 184 130 = some (.aload_n 0) := mt_cd_of (q := (130, .aload_n 0, 1)) mq_184 ci_184 (List.mem_append_right _ (List.mem_append_left _ (show _ ∈ my_184_1 from List.mem_of_getElem? (i := 19) rfl)))
theorem cd_184_131 : mt_cd 184 131 = some (.getfield 108) := mt_cd_of (q := (131, .getfield 108, 3)) mq_184 ci_184 (List.mem_append_right _ (List.mem_append_left _ (show _ ∈ my_184_1 from List.mem_of_getElem? (i := 20) rfl)))
theorem cd_184_134 : mt_cd 184 134 = some (.iload_n 3) := mt_cd_of (q := (134, .iload_n 3, 1)) mq_184 ci_184 (List.mem_append_right _ (List.mem_append_left _ (show _ ∈ my_184_1 from List.mem_of_getElem? (i := 21) rfl)))
theorem cd_184_135 : mt_cd 184 135 = some (.laload) := mt_cd_of (q := (135, .laload, 1)) mq_184 ci_184 (List.mem_append_right _ (List.mem_append_left _ (show _ ∈ my_184_1 from List.mem_of_getElem? (i := 22) rfl)))
theorem cd_184_136 : mt_cd 184 136 = some (.invokestatic 268) := mt_cd_of (q := (136, .invokestatic 268, 3)) mq_184 ci_184 (List.mem_append_right _ (List.mem_append_left _ (show _ ∈ my_184_1 from List.mem_of_getElem? (i := 23) rfl)))
theorem cd_184_139 : mt_cd 184 139 = some (.ifCond .eq 5) := mt_cd_of (q := (139, .ifCond .eq 5, 3)) mq_184 ci_184 (List.mem_append_right _ (List.mem_append_left _ (show _ ∈ my_184_1 from List.mem_of_getElem? (i := 24) rfl)))
theorem cd_184_142 : mt_cd 184 142 = some (.iconst 1) := mt_cd_of (q := (142, .iconst 1, 1)) mq_184 ci_184 (List.mem_append_right _ (List.mem_append_left _ (show _ ∈ my_184_1 from List.mem_of_getElem? (i := 25) rfl)))
theorem cd_184_143 : mt_cd 184 143 = some (.ireturn) := mt_cd_of (q := (143, .ireturn, 1)) mq_184 ci_184 (List.mem_append_right _ (List.mem_append_left _ (show _ ∈ my_184_1 from List.mem_of_getElem? (i := 26) rfl)))
theorem cd_184_144 : mt_cd 184 144 = some (.iinc 3 1) := mt_cd_of (q := (144, .iinc 3 1, 3)) mq_184 ci_184 (List.mem_append_right _ (List.mem_append_left _ (show _ ∈ my_184_1 from List.mem_of_getElem? (i := 27) rfl)))
theorem cd_184_147 : mt_cd 184 147 = some (.goto (-46)) := mt_cd_of (q := (147, .goto (-46), 3)) mq_184 ci_184 (List.mem_append_right _ (List.mem_append_left _ (show _ ∈ my_184_1 from List.mem_of_getElem? (i := 28) rfl)))
theorem cd_184_150 : mt_cd 184 150 = some (.iconst 0) := mt_cd_of (q := (150, .iconst 0, 1)) mq_184 ci_184 (List.mem_append_right _ (List.mem_append_left _ (show _ ∈ my_184_1 from List.mem_of_getElem? (i := 29) rfl)))
theorem cd_184_151 : mt_cd 184 151 = some (.ireturn) := mt_cd_of (q := (151, .ireturn, 1)) mq_184 ci_184 (List.mem_append_right _ (List.mem_append_left _ (show _ ∈ my_184_1 from List.mem_of_getElem? (i := 30) rfl)))
theorem cd_184_152 : mt_cd 184 152 = some (.aload_n 0) := mt_cd_of (q := (152, .aload_n 0, 1)) mq_184 ci_184 (List.mem_append_right _ (List.mem_append_left _ (show _ ∈ my_184_1 from List.mem_of_getElem? (i := 31) rfl)))
theorem cd_184_153 : mt_cd 184 153 = some (.getfield 181) := mt_cd_of (q := (153, .getfield 181, 3)) mq_184 ci_184 (List.mem_append_right _ (List.mem_append_left _ (show _ ∈ my_184_1 from List.mem_of_getElem? (i := 32) rfl)))
theorem cd_184_156 : mt_cd 184 156 = some (.iload_n 2) := mt_cd_of (q := (156, .iload_n 2, 1)) mq_184 ci_184 (List.mem_append_right _ (List.mem_append_left _ (show _ ∈ my_184_1 from List.mem_of_getElem? (i := 33) rfl)))
theorem cd_184_157 : mt_cd 184 157 = some (.iaload) := mt_cd_of (q := (157, .iaload, 1)) mq_184 ci_184 (List.mem_append_right _ (List.mem_append_left _ (show _ ∈ my_184_1 from List.mem_of_getElem? (i := 34) rfl)))
theorem cd_184_158 : mt_cd 184 158 = some (.aload_n 0) := mt_cd_of (q := (158, .aload_n 0, 1)) mq_184 ci_184 (List.mem_append_right _ (List.mem_append_left _ (show _ ∈ my_184_1 from List.mem_of_getElem? (i := 35) rfl)))
theorem cd_184_159 : mt_cd 184 159 = some (.getfield 80) := mt_cd_of (q := (159, .getfield 80, 3)) mq_184 ci_184 (List.mem_append_right _ (List.mem_append_left _ (show _ ∈ my_184_1 from List.mem_of_getElem? (i := 36) rfl)))
theorem cd_184_162 : mt_cd 184 162 = some (.iload_n 1) := mt_cd_of (q := (162, .iload_n 1, 1)) mq_184 ci_184 (List.mem_append_right _ (List.mem_append_left _ (show _ ∈ my_184_1 from List.mem_of_getElem? (i := 37) rfl)))
theorem cd_184_163 : mt_cd 184 163 = some (.iaload) := mt_cd_of (q := (163, .iaload, 1)) mq_184 ci_184 (List.mem_append_right _ (List.mem_append_left _ (show _ ∈ my_184_1 from List.mem_of_getElem? (i := 38) rfl)))
theorem cd_184_164 : mt_cd 184 164 = some (.if_icmp .ne 33) := mt_cd_of (q := (164, .if_icmp .ne 33, 3)) mq_184 ci_184 (List.mem_append_right _ (List.mem_append_left _ (show _ ∈ my_184_1 from List.mem_of_getElem? (i := 39) rfl)))
theorem cd_184_167 : mt_cd 184 167 = some (.aload_n 0) := mt_cd_of (q := (167, .aload_n 0, 1)) mq_184 ci_184 (List.mem_append_right _ (List.mem_append_left _ (show _ ∈ my_184_1 from List.mem_of_getElem? (i := 40) rfl)))
theorem cd_184_168 : mt_cd 184 168 = some (.getfield 184) := mt_cd_of (q := (168, .getfield 184, 3)) mq_184 ci_184 (List.mem_append_right _ (List.mem_append_left _ (show _ ∈ my_184_1 from List.mem_of_getElem? (i := 41) rfl)))
theorem cd_184_171 : mt_cd 184 171 = some (.iload_n 2) := mt_cd_of (q := (171, .iload_n 2, 1)) mq_184 ci_184 (List.mem_append_right _ (List.mem_append_left _ (show _ ∈ my_184_1 from List.mem_of_getElem? (i := 42) rfl)))
theorem cd_184_172 : mt_cd 184 172 = some (.iaload) := mt_cd_of (q := (172, .iaload, 1)) mq_184 ci_184 (List.mem_append_right _ (List.mem_append_left _ (show _ ∈ my_184_1 from List.mem_of_getElem? (i := 43) rfl)))
theorem cd_184_173 : mt_cd 184 173 = some (.aload_n 0) := mt_cd_of (q := (173, .aload_n 0, 1)) mq_184 ci_184 (List.mem_append_right _ (List.mem_append_left _ (show _ ∈ my_184_1 from List.mem_of_getElem? (i := 44) rfl)))
theorem cd_184_174 : mt_cd 184 174 = some (.getfield 83) := mt_cd_of (q := (174, .getfield 83, 3)) mq_184 ci_184 (List.mem_append_right _ (List.mem_append_left _ (show _ ∈ my_184_1 from List.mem_of_getElem? (i := 45) rfl)))
theorem cd_184_177 : mt_cd 184 177 = some (.iload_n 1) := mt_cd_of (q := (177, .iload_n 1, 1)) mq_184 ci_184 (List.mem_append_right _ (List.mem_append_left _ (show _ ∈ my_184_1 from List.mem_of_getElem? (i := 46) rfl)))
theorem cd_184_178 : mt_cd 184 178 = some (.iaload) := mt_cd_of (q := (178, .iaload, 1)) mq_184 ci_184 (List.mem_append_right _ (List.mem_append_left _ (show _ ∈ my_184_1 from List.mem_of_getElem? (i := 47) rfl)))
theorem cd_184_179 : mt_cd 184 179 = some (.if_icmp .ne 18) := mt_cd_of (q := (179, .if_icmp .ne 18, 3)) mq_184 ci_184 (List.mem_append_right _ (List.mem_append_left _ (show _ ∈ my_184_1 from List.mem_of_getElem? (i := 48) rfl)))
theorem cd_184_182 : mt_cd 184 182 = some (.aload_n 0) := mt_cd_of (q := (182, .aload_n 0, 1)) mq_184 ci_184 (List.mem_append_right _ (List.mem_append_left _ (show _ ∈ my_184_1 from List.mem_of_getElem? (i := 49) rfl)))
theorem cd_184_183 : mt_cd 184 183 = some (.getfield 187) := mt_cd_of (q := (183, .getfield 187, 3)) mq_184 ci_184 (List.mem_append_right _ (List.mem_append_left _ (show _ ∈ my_184_1 from List.mem_of_getElem? (i := 50) rfl)))
theorem cd_184_186 : mt_cd 184 186 = some (.iload_n 2) := mt_cd_of (q := (186, .iload_n 2, 1)) mq_184 ci_184 (List.mem_append_right _ (List.mem_append_left _ (show _ ∈ my_184_1 from List.mem_of_getElem? (i := 51) rfl)))
theorem cd_184_187 : mt_cd 184 187 = some (.iaload) := mt_cd_of (q := (187, .iaload, 1)) mq_184 ci_184 (List.mem_append_right _ (List.mem_append_left _ (show _ ∈ my_184_1 from List.mem_of_getElem? (i := 52) rfl)))
theorem cd_184_188 : mt_cd 184 188 = some (.aload_n 0) := mt_cd_of (q := (188, .aload_n 0, 1)) mq_184 ci_184 (List.mem_append_right _ (List.mem_append_left _ (show _ ∈ my_184_1 from List.mem_of_getElem? (i := 53) rfl)))
theorem cd_184_189 : mt_cd 184 189 = some (.getfield 86) := mt_cd_of (q := (189, .getfield 86, 3)) mq_184 ci_184 (List.mem_append_right _ (List.mem_append_left _ (show _ ∈ my_184_1 from List.mem_of_getElem? (i := 54) rfl)))
theorem cd_184_192 : mt_cd 184 192 = some (.iload_n 1) := mt_cd_of (q := (192, .iload_n 1, 1)) mq_184 ci_184 (List.mem_append_right _ (List.mem_append_left _ (show _ ∈ my_184_1 from List.mem_of_getElem? (i := 55) rfl)))
theorem cd_184_193 : mt_cd 184 193 = some (.iaload) := mt_cd_of (q := (193, .iaload, 1)) mq_184 ci_184 (List.mem_append_right _ (List.mem_append_left _ (show _ ∈ my_184_1 from List.mem_of_getElem? (i := 56) rfl)))
theorem cd_184_194 : mt_cd 184 194 = some (.if_icmp .eq 5) := mt_cd_of (q := (194, .if_icmp .eq 5, 3)) mq_184 ci_184 (List.mem_append_right _ (List.mem_append_left _ (show _ ∈ my_184_1 from List.mem_of_getElem? (i := 57) rfl)))
theorem cd_184_197 : mt_cd 184 197 = some (.iconst 0) := mt_cd_of (q := (197, .iconst 0, 1)) mq_184 ci_184 (List.mem_append_right _ (List.mem_append_left _ (show _ ∈ my_184_1 from List.mem_of_getElem? (i := 58) rfl)))
theorem cd_184_198 : mt_cd 184 198 = some (.ireturn) := mt_cd_of (q := (198, .ireturn, 1)) mq_184 ci_184 (List.mem_append_right _ (List.mem_append_left _ (show _ ∈ my_184_1 from List.mem_of_getElem? (i := 59) rfl)))
theorem cd_184_199 : mt_cd 184 199 = some (.aload_n 0) := mt_cd_of (q := (199, .aload_n 0, 1)) mq_184 ci_184 (List.mem_append_right _ (List.mem_append_right _ ((show _ ∈ my_184_2 from List.mem_of_getElem? (i := 0) rfl))))
theorem cd_184_200 : mt_cd 184 200 = some (.aload_n 0) := mt_cd_of (q := (200, .aload_n 0, 1)) mq_184 ci_184 (List.mem_append_right _ (List.mem_append_right _ ((show _ ∈ my_184_2 from List.mem_of_getElem? (i := 1) rfl))))
theorem cd_184_201 : mt_cd 184 201 = some (.getfield 89) := mt_cd_of (q := (201, .getfield 89, 3)) mq_184 ci_184 (List.mem_append_right _ (List.mem_append_right _ ((show _ ∈ my_184_2 from List.mem_of_getElem? (i := 2) rfl))))
theorem cd_184_204 : mt_cd 184 204 = some (.iload_n 1) := mt_cd_of (q := (204, .iload_n 1, 1)) mq_184 ci_184 (List.mem_append_right _ (List.mem_append_right _ ((show _ ∈ my_184_2 from List.mem_of_getElem? (i := 3) rfl))))
theorem cd_184_205 : mt_cd 184 205 = some (.iaload) := mt_cd_of (q := (205, .iaload, 1)) mq_184 ci_184 (List.mem_append_right _ (List.mem_append_right _ ((show _ ∈ my_184_2 from List.mem_of_getElem? (i := 4) rfl))))
theorem cd_184_206 : mt_cd 184 206 = some (.invokevirtual 451) := mt_cd_of (q := (206, .invokevirtual 451, 3)) mq_184 ci_184 (List.mem_append_right _ (List.mem_append_right _ ((show _ ∈ my_184_2 from List.mem_of_getElem? (i := 5) rfl))))
theorem cd_184_209 : mt_cd 184 209 = some (.lstore_n 3) := mt_cd_of (q := (209, .lstore_n 3, 1)) mq_184 ci_184 (List.mem_append_right _ (List.mem_append_right _ ((show _ ∈ my_184_2 from List.mem_of_getElem? (i := 6) rfl))))
theorem cd_184_210 : mt_cd 184 210 = some (.aload_n 0) := mt_cd_of (q := (210, .aload_n 0, 1)) mq_184 ci_184 (List.mem_append_right _ (List.mem_append_right _ ((show _ ∈ my_184_2 from List.mem_of_getElem? (i := 7) rfl))))
theorem cd_184_211 : mt_cd 184 211 = some (.getfield 441) := mt_cd_of (q := (211, .getfield 441, 3)) mq_184 ci_184 (List.mem_append_right _ (List.mem_append_right _ ((show _ ∈ my_184_2 from List.mem_of_getElem? (i := 8) rfl))))
theorem cd_184_214 : mt_cd 184 214 = some (.ifCond .eq 8) := mt_cd_of (q := (214, .ifCond .eq 8, 3)) mq_184 ci_184 (List.mem_append_right _ (List.mem_append_right _ ((show _ ∈ my_184_2 from List.mem_of_getElem? (i := 9) rfl))))
theorem cd_184_217 : mt_cd 184 217 = some (.bipush 6) := mt_cd_of (q := (217, .bipush 6, 2)) mq_184 ci_184 (List.mem_append_right _ (List.mem_append_right _ ((show _ ∈ my_184_2 from List.mem_of_getElem? (i := 10) rfl))))
theorem cd_184_219 : mt_cd 184 219 = some (.goto 19) := mt_cd_of (q := (219, .goto 19, 3)) mq_184 ci_184 (List.mem_append_right _ (List.mem_append_right _ ((show _ ∈ my_184_2 from List.mem_of_getElem? (i := 11) rfl))))
theorem cd_184_222 : mt_cd 184 222 = some (.lload_n 3) := mt_cd_of (q := (222, .lload_n 3, 1)) mq_184 ci_184 (List.mem_append_right _ (List.mem_append_right _ ((show _ ∈ my_184_2 from List.mem_of_getElem? (i := 12) rfl))))
theorem cd_184_223 : mt_cd 184 223 = some (.aload_n 0) := mt_cd_of (q := (223, .aload_n 0, 1)) mq_184 ci_184 (List.mem_append_right _ (List.mem_append_right _ ((show _ ∈ my_184_2 from List.mem_of_getElem? (i := 13) rfl))))
theorem cd_184_224 : mt_cd 184 224 = some (.getfield 190) := mt_cd_of (q := (224, .getfield 190, 3)) mq_184 ci_184 (List.mem_append_right _ (List.mem_append_right _ ((show _ ∈ my_184_2 from List.mem_of_getElem? (i := 14) rfl))))
theorem cd_184_227 : mt_cd 184 227 = some (.iload_n 2) := mt_cd_of (q := (227, .iload_n 2, 1)) mq_184 ci_184 (List.mem_append_right _ (List.mem_append_right _ ((show _ ∈ my_184_2 from List.mem_of_getElem? (i := 15) rfl))))
theorem cd_184_228 : mt_cd 184 228 = some (.laload) := mt_cd_of (q := (228, .laload, 1)) mq_184 ci_184 (List.mem_append_right _ (List.mem_append_right _ ((show _ ∈ my_184_2 from List.mem_of_getElem? (i := 16) rfl))))
theorem cd_184_229 : mt_cd 184 229 = some (.lcmp) := mt_cd_of (q := (229, .lcmp, 1)) mq_184 ci_184 (List.mem_append_right _ (List.mem_append_right _ ((show _ ∈ my_184_2 from List.mem_of_getElem? (i := 17) rfl))))
theorem cd_184_230 : mt_cd 184 230 = some (.ifCond .ne 7) := mt_cd_of (q := (230, .ifCond .ne 7, 3)) mq_184 ci_184 (List.mem_append_right _ (List.mem_append_right _ ((show _ ∈ my_184_2 from List.mem_of_getElem? (i := 18) rfl))))
theorem cd_184_233 : mt_cd 184 233 = some (.iconst 1) := mt_cd_of (q := (233, .iconst 1, 1)) mq_184 ci_184 (List.mem_append_right _ (List.mem_append_right _ ((show _ ∈ my_184_2 from List.mem_of_getElem? (i := 19) rfl))))
theorem cd_184_234 : mt_cd 184 234 = some (.goto 4) := mt_cd_of (q := (234, .goto 4, 3)) mq_184 ci_184 (List.mem_append_right _ (List.mem_append_right _ ((show _ ∈ my_184_2 from List.mem_of_getElem? (i := 20) rfl))))
theorem cd_184_237 : mt_cd 184 237 = some (.iconst 0) := mt_cd_of (q := (237, .iconst 0, 1)) mq_184 ci_184 (List.mem_append_right _ (List.mem_append_right _ ((show _ ∈ my_184_2 from List.mem_of_getElem? (i := 21) rfl))))
theorem cd_184_238 : mt_cd 184 238 = some (.ireturn) := mt_cd_of (q := (238, .ireturn, 1)) mq_184 ci_184 (List.mem_append_right _ (List.mem_append_right _ ((show _ ∈ my_184_2 from List.mem_of_getElem? (i := 22) rfl))))
theorem b_184_0 {d : Nat} {Q : (Option Value ⊕ Nat) → mi_H → Prop} (n sl : Nat) (f : Nat → mi_C) {l1 : Nat} {l2 : Int32} {l3 : Int32} {o4 : Option Value} {o5 : Option Value} {fs6 : List Value} {fs11 : List Value} {x14 : Nat} (m16 i16 : Nat) (g16 : Nat → Int32) {fs20 : List Value} {x23 : Nat} (m25 i25 : Nat) (g25 : Nat → Int32) (h7 : f l1 = .inr (12, fs6)) (h8 : l1 < n) (h9 : 46 < fs6.length) (h10 : mi_fk .boolean (.int 0) = true) (h12 : (va_up f l1 (.inr (12, fs6.set 46 (.int 0)))) l1 = .inr (12, fs11)) (h13 : l1 < n) (h15 : fs11[60]? = some (.ref x14)) (h17 : (va_up f l1 (.inr (12, fs6.set 46 (.int 0)))) x14 = .inl (0, m16, .inl g16)) (h18 : x14 < n ∨ x14 = mi_SC) (h19 : mi_ix l3 m16 i16) (h21 : (va_up f l1 (.inr (12, fs6.set 46 (.int 0)))) l1 = .inr (12, fs20)) (h22 : l1 < n) (h24 : fs20[12]? = some (.ref x23)) (h26 : (va_up f l1 (.inr (12, fs6.set 46 (.int 0)))) x23 = .inl (0, m25, .inl g25)) (h27 : x23 < n ∨ x23 = mi_SC) (h28 : mi_ix l2 m25 i25) (h29 : (g16 i16) = (g25 i25) → mi_W d 184 22 [some (.ref l1), some (.int l2), some (.int l3), o4, o5] [] (n, sl, (va_up f l1 (.inr (12, fs6.set 46 (.int 0))))) Q) (h30 : ¬ ((g16 i16) = (g25 i25)) → mi_W d 184 20 [some (.ref l1), some (.int l2), some (.int l3), o4, o5] [] (n, sl, (va_up f l1 (.inr (12, fs6.set 46 (.int 0))))) Q) : mi_W d 184 0 [some (.ref l1), some (.int l2), some (.int l3), o4, o5] [] (n, sl, f) Q := by
  refine w_aload_n cd_184_0 rfl ?_
  refine w_iconst (v := 0) cd_184_1 (by decide) ?_
  refine w_putfield (w := .int 0) cd_184_2 (show mt_f 12 441 = some (12, 46) by decide +kernel) h7 h8 ⟨h9, h10, Or.inl (by decide)⟩ ?_
  refine w_aload_n cd_184_5 rfl ?_
  refine w_getfield cd_184_6 (show mt_f 12 178 = some (12, 60) by decide +kernel) h12 h13 h15 ?_
  refine w_iload_n cd_184_9 rfl ?_
  refine w_iaload cd_184_10 h17 h18 h19 ?_
  refine w_aload_n cd_184_11 rfl ?_
  refine w_getfield cd_184_12 (show mt_f 12 77 = some (12, 12) by decide +kernel) h21 h22 h24 ?_
  refine w_iload_n cd_184_15 rfl ?_
  refine w_iaload cd_184_16 h26 h27 h28 ?_
  exact w_if_icmpeq cd_184_17 (by decide) h29 h30
theorem b_184_20 {d : Nat} {Q : (Option Value ⊕ Nat) → mi_H → Prop} (n sl : Nat) (f : Nat → mi_C) {l1 : Nat} {l2 : Int32} {l3 : Int32} {o4 : Option Value} {o5 : Option Value} (h6 : Q (.inl (some (.int 0))) (n, sl, f)) : mi_W d 184 20 [some (.ref l1), some (.int l2), some (.int l3), o4, o5] [] (n, sl, f) Q := by
  refine w_iconst (v := 0) cd_184_20 (by decide) ?_
  exact w_ireturn_i cd_184_21 (by decide +kernel) h6
theorem b_184_22 {d : Nat} {Q : (Option Value ⊕ Nat) → mi_H → Prop} (n sl : Nat) (f : Nat → mi_C) {l1 : Nat} {l2 : Int32} {l3 : Int32} {o4 : Option Value} {o5 : Option Value} {fs6 : List Value} {x9 : Nat} (m11 i11 : Nat) (g11 : Nat → Int32) (h7 : f l1 = .inr (12, fs6)) (h8 : l1 < n) (h10 : fs6[12]? = some (.ref x9)) (h12 : f x9 = .inl (0, m11, .inl g11)) (h13 : x9 < n ∨ x9 = mi_SC) (h14 : mi_ix l2 m11 i11) (h15 : ¬ (g11 i11) = 9 → mi_W d 184 66 [some (.ref l1), some (.int l2), some (.int l3), o4, o5] [] (n, sl, f) Q) (h16 : ¬ (¬ (g11 i11) = 9) → mi_W d 184 33 [some (.ref l1), some (.int l2), some (.int l3), o4, o5] [] (n, sl, f) Q) : mi_W d 184 22 [some (.ref l1), some (.int l2), some (.int l3), o4, o5] [] (n, sl, f) Q := by
  refine w_aload_n cd_184_22 rfl ?_
  refine w_getfield cd_184_23 (show mt_f 12 77 = some (12, 12) by decide +kernel) h7 h8 h10 ?_
  refine w_iload_n cd_184_26 rfl ?_
  refine w_iaload cd_184_27 h12 h13 h14 ?_
  refine w_bipush (v := 9) cd_184_28 (by decide) ?_
  exact w_if_icmpne cd_184_30 (by decide) h15 h16
theorem b_184_33 {d : Nat} {Q : (Option Value ⊕ Nat) → mi_H → Prop} (n sl : Nat) (f : Nat → mi_C) {l1 : Nat} {l2 : Int32} {l3 : Int32} {o4 : Option Value} {o5 : Option Value} {fs6 : List Value} {x9 : Nat} (m11 i11 : Nat) (g11 : Nat → Int32) {fs15 : List Value} (h7 : f l1 = .inr (12, fs6)) (h8 : l1 < n) (h10 : fs6[16]? = some (.ref x9)) (h12 : f x9 = .inl (0, m11, .inl g11)) (h13 : x9 < n ∨ x9 = mi_SC) (h14 : mi_ix l2 m11 i11) (h16 : f l1 = .inr (12, fs15)) (h17 : l1 < n) (h18 : mi_W d 179 0 (mi_en 6 [.ref l1, .int (g11 i11)]) [] (n, sl, f) (mi_Kc d 184 40 [some (.ref l1), some (.int l2), some (.int l3), o4, o5] [] Q)) : mi_W (d + 1) 184 33 [some (.ref l1), some (.int l2), some (.int l3), o4, o5] [] (n, sl, f) Q := by
  refine w_aload_n cd_184_33 rfl ?_
  refine w_aload_n cd_184_34 rfl ?_
  refine w_getfield cd_184_35 (show mt_f 12 89 = some (12, 16) by decide +kernel) h7 h8 h10 ?_
  refine w_iload_n cd_184_38 rfl ?_
  refine w_iaload cd_184_39 h12 h13 h14 ?_
  exact w_invokevirtual cd_184_40 (show mt_m 12 477 = some (179, 0) by decide +kernel) (rest := []) rfl (as := [.ref l1, .int (g11 i11)]) rfl h16 (Or.inl h17) ⟨Nat.le_of_ble_eq_true rfl, Nat.le_of_ble_eq_true rfl, Nat.le_of_ble_eq_true rfl⟩ h18
theorem b_184_43 {d : Nat} {Q : (Option Value ⊕ Nat) → mi_H → Prop} (n sl : Nat) (f : Nat → mi_C) {l1 : Nat} {l2 : Int32} {l3 : Int32} {o4 : Option Value} {o5 : Option Value} {s6 : Int32} {fs7 : List Value} {x10 : Int32} (h8 : f l1 = .inr (12, fs7)) (h9 : l1 < n) (h11 : fs7[46]? = some (.int x10)) (h12 : x10 = (0 : Int32) → mi_W d 184 56 [some (.ref l1), some (.int l2), some (.int l3), some (.int s6), o5] [] (n, sl, f) Q) (h13 : ¬ (x10 = (0 : Int32)) → mi_W d 184 51 [some (.ref l1), some (.int l2), some (.int l3), some (.int s6), o5] [] (n, sl, f) Q) : mi_W d 184 43 [some (.ref l1), some (.int l2), some (.int l3), o4, o5] [.int s6] (n, sl, f) Q := by
  refine w_istore_n (ls' := [some (.ref l1), some (.int l2), some (.int l3), some (.int s6), o5]) cd_184_43 (Nat.le_of_ble_eq_true rfl) rfl ?_
  refine w_aload_n cd_184_44 rfl ?_
  refine w_getfield cd_184_45 (show mt_f 12 441 = some (12, 46) by decide +kernel) h8 h9 h11 ?_
  exact w_ifeq cd_184_48 (by decide) h12 h13
theorem b_184_51 {d : Nat} {Q : (Option Value ⊕ Nat) → mi_H → Prop} (n sl : Nat) (f : Nat → mi_C) {l1 : Nat} {l2 : Int32} {l3 : Int32} {l4 : Int32} {o5 : Option Value} (h6 : mi_W d 184 65 [some (.ref l1), some (.int l2), some (.int l3), some (.int l4), o5] [.int 6] (n, sl, f) Q) : mi_W d 184 51 [some (.ref l1), some (.int l2), some (.int l3), some (.int l4), o5] [] (n, sl, f) Q := by
  refine w_bipush (v := 6) cd_184_51 (by decide) ?_
  exact w_goto cd_184_53 (by decide) h6
theorem b_184_56 {d : Nat} {Q : (Option Value ⊕ Nat) → mi_H → Prop} (n sl : Nat) (f : Nat → mi_C) {l1 : Nat} {l2 : Int32} {l3 : Int32} {l4 : Int32} {o5 : Option Value} (h6 : l4 = (0 : Int32) → mi_W d 184 64 [some (.ref l1), some (.int l2), some (.int l3), some (.int l4), o5] [] (n, sl, f) Q) (h7 : ¬ (l4 = (0 : Int32)) → mi_W d 184 60 [some (.ref l1), some (.int l2), some (.int l3), some (.int l4), o5] [] (n, sl, f) Q) : mi_W d 184 56 [some (.ref l1), some (.int l2), some (.int l3), some (.int l4), o5] [] (n, sl, f) Q := by
  refine w_iload_n cd_184_56 rfl ?_
  exact w_ifeq cd_184_57 (by decide) h6 h7
theorem b_184_60 {d : Nat} {Q : (Option Value ⊕ Nat) → mi_H → Prop} (n sl : Nat) (f : Nat → mi_C) {l1 : Nat} {l2 : Int32} {l3 : Int32} {l4 : Int32} {o5 : Option Value} (h6 : mi_W d 184 65 [some (.ref l1), some (.int l2), some (.int l3), some (.int l4), o5] [.int 1] (n, sl, f) Q) : mi_W d 184 60 [some (.ref l1), some (.int l2), some (.int l3), some (.int l4), o5] [] (n, sl, f) Q := by
  refine w_iconst (v := 1) cd_184_60 (by decide) ?_
  exact w_goto cd_184_61 (by decide) h6
theorem b_184_64 {d : Nat} {Q : (Option Value ⊕ Nat) → mi_H → Prop} (n sl : Nat) (f : Nat → mi_C) {l1 : Nat} {l2 : Int32} {l3 : Int32} {l4 : Int32} {o5 : Option Value} (h6 : mi_W d 184 65 [some (.ref l1), some (.int l2), some (.int l3), some (.int l4), o5] [.int 0] (n, sl, f) Q) : mi_W d 184 64 [some (.ref l1), some (.int l2), some (.int l3), some (.int l4), o5] [] (n, sl, f) Q := by
  refine w_iconst (v := 0) cd_184_64 (by decide) ?_
  exact h6
theorem b_184_65 {d : Nat} {Q : (Option Value ⊕ Nat) → mi_H → Prop} (n sl : Nat) (f : Nat → mi_C) {l1 : Nat} {l2 : Int32} {l3 : Int32} {l4 : Int32} {o5 : Option Value} {s6 : Int32} (h7 : Q (.inl (some (.int s6))) (n, sl, f)) : mi_W d 184 65 [some (.ref l1), some (.int l2), some (.int l3), some (.int l4), o5] [.int s6] (n, sl, f) Q := by
  exact w_ireturn_i cd_184_65 (by decide +kernel) h7
theorem b_184_66 {d : Nat} {Q : (Option Value ⊕ Nat) → mi_H → Prop} (n sl : Nat) (f : Nat → mi_C) {l1 : Nat} {l2 : Int32} {l3 : Int32} {o4 : Option Value} {o5 : Option Value} {fs6 : List Value} {x9 : Nat} (m11 i11 : Nat) (g11 : Nat → Int32) (h7 : f l1 = .inr (12, fs6)) (h8 : l1 < n) (h10 : fs6[12]? = some (.ref x9)) (h12 : f x9 = .inl (0, m11, .inl g11)) (h13 : x9 < n ∨ x9 = mi_SC) (h14 : mi_ix l2 m11 i11) (h15 : ¬ (g11 i11) = 8 → mi_W d 184 152 [some (.ref l1), some (.int l2), some (.int l3), o4, o5] [] (n, sl, f) Q) (h16 : ¬ (¬ (g11 i11) = 8) → mi_W d 184 77 [some (.ref l1), some (.int l2), some (.int l3), o4, o5] [] (n, sl, f) Q) : mi_W d 184 66 [some (.ref l1), some (.int l2), some (.int l3), o4, o5] [] (n, sl, f) Q := by
  refine w_aload_n cd_184_66 rfl ?_
  refine w_getfield cd_184_67 (show mt_f 12 77 = some (12, 12) by decide +kernel) h7 h8 h10 ?_
  refine w_iload_n cd_184_70 rfl ?_
  refine w_iaload cd_184_71 h12 h13 h14 ?_
  refine w_bipush (v := 8) cd_184_72 (by decide) ?_
  exact w_if_icmpne cd_184_74 (by decide) h15 h16
theorem b_184_77 {d : Nat} {Q : (Option Value ⊕ Nat) → mi_H → Prop} (n sl : Nat) (f : Nat → mi_C) {l1 : Nat} {l2 : Int32} {l3 : Int32} {o4 : Option Value} {o5 : Option Value} {fs6 : List Value} {x9 : Nat} (m11 i11 : Nat) (g11 : Nat → Int32) {fs15 : List Value} {x18 : Nat} (m20 i20 : Nat) (g20 : Nat → Int32) (h7 : f l1 = .inr (12, fs6)) (h8 : l1 < n) (h10 : fs6[61]? = some (.ref x9)) (h12 : f x9 = .inl (0, m11, .inl g11)) (h13 : x9 < n ∨ x9 = mi_SC) (h14 : mi_ix l3 m11 i11) (h16 : f l1 = .inr (12, fs15)) (h17 : l1 < n) (h19 : fs15[13]? = some (.ref x18)) (h21 : f x18 = .inl (0, m20, .inl g20)) (h22 : x18 < n ∨ x18 = mi_SC) (h23 : mi_ix l2 m20 i20) (h24 : (g11 i11) = (g20 i20) → mi_W d 184 94 [some (.ref l1), some (.int l2), some (.int l3), o4, o5] [] (n, sl, f) Q) (h25 : ¬ ((g11 i11) = (g20 i20)) → mi_W d 184 92 [some (.ref l1), some (.int l2), some (.int l3), o4, o5] [] (n, sl, f) Q) : mi_W d 184 77 [some (.ref l1), some (.int l2), some (.int l3), o4, o5] [] (n, sl, f) Q := by
  refine w_aload_n cd_184_77 rfl ?_
  refine w_getfield cd_184_78 (show mt_f 12 181 = some (12, 61) by decide +kernel) h7 h8 h10 ?_
  refine w_iload_n cd_184_81 rfl ?_
  refine w_iaload cd_184_82 h12 h13 h14 ?_
  refine w_aload_n cd_184_83 rfl ?_
  refine w_getfield cd_184_84 (show mt_f 12 80 = some (12, 13) by decide +kernel) h16 h17 h19 ?_
  refine w_iload_n cd_184_87 rfl ?_
  refine w_iaload cd_184_88 h21 h22 h23 ?_
  exact w_if_icmpeq cd_184_89 (by decide) h24 h25
theorem b_184_92 {d : Nat} {Q : (Option Value ⊕ Nat) → mi_H → Prop} (n sl : Nat) (f : Nat → mi_C) {l1 : Nat} {l2 : Int32} {l3 : Int32} {o4 : Option Value} {o5 : Option Value} (h6 : Q (.inl (some (.int 0))) (n, sl, f)) : mi_W d 184 92 [some (.ref l1), some (.int l2), some (.int l3), o4, o5] [] (n, sl, f) Q := by
  refine w_iconst (v := 0) cd_184_92 (by decide) ?_
  exact w_ireturn_i cd_184_93 (by decide +kernel) h6
theorem b_184_94 {d : Nat} {Q : (Option Value ⊕ Nat) → mi_H → Prop} (n sl : Nat) (f : Nat → mi_C) {l1 : Nat} {l2 : Int32} {l3 : Int32} {o4 : Option Value} {o5 : Option Value} {fs6 : List Value} {x9 : Nat} (m11 i11 : Nat) (g11 : Nat → Int32) (h7 : f l1 = .inr (12, fs6)) (h8 : l1 < n) (h10 : fs6[40]? = some (.ref x9)) (h12 : f x9 = .inl (0, m11, .inl g11)) (h13 : x9 < n ∨ x9 = mi_SC) (h14 : mi_ix l2 m11 i11) (h15 : mi_W d 184 101 [some (.ref l1), some (.int l2), some (.int l3), some (.int (g11 i11)), o5] [] (n, sl, f) Q) : mi_W d 184 94 [some (.ref l1), some (.int l2), some (.int l3), o4, o5] [] (n, sl, f) Q := by
  refine w_aload_n cd_184_94 rfl ?_
  refine w_getfield cd_184_95 (show mt_f 12 141 = some (12, 40) by decide +kernel) h7 h8 h10 ?_
  refine w_iload_n cd_184_98 rfl ?_
  refine w_iaload cd_184_99 h12 h13 h14 ?_
  refine w_istore_n (ls' := [some (.ref l1), some (.int l2), some (.int l3), some (.int (g11 i11)), o5]) cd_184_100 (Nat.le_of_ble_eq_true rfl) rfl ?_
  exact h15
theorem b_184_101 {d : Nat} {Q : (Option Value ⊕ Nat) → mi_H → Prop} (n sl : Nat) (f : Nat → mi_C) {l1 : Nat} {l2 : Int32} {l3 : Int32} {l4 : Int32} {o5 : Option Value} {fs6 : List Value} {x9 : Nat} (m11 i11 : Nat) (g11 : Nat → Int32) {fs15 : List Value} {x18 : Nat} (m20 i20 : Nat) (g20 : Nat → Int32) (h7 : f l1 = .inr (12, fs6)) (h8 : l1 < n) (h10 : fs6[40]? = some (.ref x9)) (h12 : f x9 = .inl (0, m11, .inl g11)) (h13 : x9 < n ∨ x9 = mi_SC) (h14 : mi_ix l2 m11 i11) (h16 : f l1 = .inr (12, fs15)) (h17 : l1 < n) (h19 : fs15[18]? = some (.ref x18)) (h21 : f x18 = .inl (0, m20, .inl g20)) (h22 : x18 < n ∨ x18 = mi_SC) (h23 : mi_ix l2 m20 i20) (h24 : ((g11 i11) + (g20 i20)) ≤ l4 → mi_W d 184 150 [some (.ref l1), some (.int l2), some (.int l3), some (.int l4), o5] [] (n, sl, f) Q) (h25 : ¬ (((g11 i11) + (g20 i20)) ≤ l4) → mi_W d 184 118 [some (.ref l1), some (.int l2), some (.int l3), some (.int l4), o5] [] (n, sl, f) Q) : mi_W d 184 101 [some (.ref l1), some (.int l2), some (.int l3), some (.int l4), o5] [] (n, sl, f) Q := by
  refine w_iload_n cd_184_101 rfl ?_
  refine w_aload_n cd_184_102 rfl ?_
  refine w_getfield cd_184_103 (show mt_f 12 141 = some (12, 40) by decide +kernel) h7 h8 h10 ?_
  refine w_iload_n cd_184_106 rfl ?_
  refine w_iaload cd_184_107 h12 h13 h14 ?_
  refine w_aload_n cd_184_108 rfl ?_
  refine w_getfield cd_184_109 (show mt_f 12 95 = some (12, 18) by decide +kernel) h16 h17 h19 ?_
  refine w_iload_n cd_184_112 rfl ?_
  refine w_iaload cd_184_113 h21 h22 h23 ?_
  refine w_iadd cd_184_114 ?_
  exact w_if_icmpge cd_184_115 (by decide) h24 h25
theorem b_184_118 {d : Nat} {Q : (Option Value ⊕ Nat) → mi_H → Prop} (n sl : Nat) (f : Nat → mi_C) {l1 : Nat} {l2 : Int32} {l3 : Int32} {l4 : Int32} {o5 : Option Value} {fs6 : List Value} {x9 : Nat} (m11 i11 : Nat) (g11 : Nat → Int64) {fs15 : List Value} {x18 : Nat} (m20 i20 : Nat) (g20 : Nat → Int64) {fs24 : List Value} {x27 : Nat} (m29 i29 : Nat) (g29 : Nat → Int64) (h7 : f l1 = .inr (12, fs6)) (h8 : l1 < n) (h10 : fs6[64]? = some (.ref x9)) (h12 : f x9 = .inl (3, m11, .inr (.inl g11))) (h13 : x9 < n) (h14 : mi_ix l3 m11 i11) (h16 : f l1 = .inr (12, fs15)) (h17 : l1 < n) (h19 : fs15[28]? = some (.ref x18)) (h21 : f x18 = .inl (3, m20, .inr (.inl g20))) (h22 : x18 < n) (h23 : mi_ix l4 m20 i20) (h25 : f l1 = .inr (12, fs24)) (h26 : l1 < n) (h28 : fs24[29]? = some (.ref x27)) (h30 : f x27 = .inl (3, m29, .inr (.inl g29))) (h31 : x27 < n) (h32 : mi_ix l4 m29 i29) (h33 : mi_W d 142 0 (mi_en 6 [.long (g11 i11), .long (g20 i20), .long (g29 i29)]) [] (n, sl, f) (mi_Kc d 184 136 [some (.ref l1), some (.int l2), some (.int l3), some (.int l4), o5] [] Q)) : mi_W (d + 1) 184 118 [some (.ref l1), some (.int l2), some (.int l3), some (.int l4), o5] [] (n, sl, f) Q := by
  refine w_aload_n cd_184_118 rfl ?_
  refine w_getfield cd_184_119 (show mt_f 12 190 = some (12, 64) by decide +kernel) h7 h8 h10 ?_
  refine w_iload_n cd_184_122 rfl ?_
  refine w_laload cd_184_123 h12 h13 h14 ?_
  refine w_aload_n cd_184_124 rfl ?_
  refine w_getfield cd_184_125 (show mt_f 12 105 = some (12, 28) by decide +kernel) h16 h17 h19 ?_
  refine w_iload_n cd_184_128 rfl ?_
  refine w_laload cd_184_129 h21 h22 h23 ?_
  refine w_aload_n cd_184_130 rfl ?_
  refine w_getfield cd_184_131 (show mt_f 12 108 = some (12, 29) by decide +kernel) h25 h26 h28 ?_
  refine w_iload_n cd_184_134 rfl ?_
  refine w_laload cd_184_135 h30 h31 h32 ?_
  exact w_invokestatic cd_184_136 (show mt_m 12 268 = some (142, 4) by decide +kernel) (by decide) (rest := []) rfl (as := [.long (g11 i11), .long (g20 i20), .long (g29 i29)]) rfl ⟨Nat.le_of_ble_eq_true rfl, Nat.le_of_ble_eq_true rfl, Nat.le_of_ble_eq_true rfl⟩ h33
theorem b_184_139 {d : Nat} {Q : (Option Value ⊕ Nat) → mi_H → Prop} (n sl : Nat) (f : Nat → mi_C) {l1 : Nat} {l2 : Int32} {l3 : Int32} {l4 : Int32} {o5 : Option Value} {s6 : Int32} (h7 : s6 = (0 : Int32) → mi_W d 184 144 [some (.ref l1), some (.int l2), some (.int l3), some (.int l4), o5] [] (n, sl, f) Q) (h8 : ¬ (s6 = (0 : Int32)) → mi_W d 184 142 [some (.ref l1), some (.int l2), some (.int l3), some (.int l4), o5] [] (n, sl, f) Q) : mi_W d 184 139 [some (.ref l1), some (.int l2), some (.int l3), some (.int l4), o5] [.int s6] (n, sl, f) Q := by
  exact w_ifeq cd_184_139 (by decide) h7 h8
theorem b_184_142 {d : Nat} {Q : (Option Value ⊕ Nat) → mi_H → Prop} (n sl : Nat) (f : Nat → mi_C) {l1 : Nat} {l2 : Int32} {l3 : Int32} {l4 : Int32} {o5 : Option Value} (h6 : Q (.inl (some (.int 1))) (n, sl, f)) : mi_W d 184 142 [some (.ref l1), some (.int l2), some (.int l3), some (.int l4), o5] [] (n, sl, f) Q := by
  refine w_iconst (v := 1) cd_184_142 (by decide) ?_
  exact w_ireturn_i cd_184_143 (by decide +kernel) h6
theorem b_184_144 {d : Nat} {Q : (Option Value ⊕ Nat) → mi_H → Prop} (n sl : Nat) (f : Nat → mi_C) {l1 : Nat} {l2 : Int32} {l3 : Int32} {l4 : Int32} {o5 : Option Value} (h6 : mi_W d 184 101 [some (.ref l1), some (.int l2), some (.int l3), some (.int (l4 + 1)), o5] [] (n, sl, f) Q) : mi_W d 184 144 [some (.ref l1), some (.int l2), some (.int l3), some (.int l4), o5] [] (n, sl, f) Q := by
  refine w_iinc (v := 1) (ls' := [some (.ref l1), some (.int l2), some (.int l3), some (.int (l4 + 1)), o5]) cd_184_144 rfl (by decide) rfl ?_
  exact w_goto cd_184_147 (by decide) h6
theorem b_184_150 {d : Nat} {Q : (Option Value ⊕ Nat) → mi_H → Prop} (n sl : Nat) (f : Nat → mi_C) {l1 : Nat} {l2 : Int32} {l3 : Int32} {l4 : Int32} {o5 : Option Value} (h6 : Q (.inl (some (.int 0))) (n, sl, f)) : mi_W d 184 150 [some (.ref l1), some (.int l2), some (.int l3), some (.int l4), o5] [] (n, sl, f) Q := by
  refine w_iconst (v := 0) cd_184_150 (by decide) ?_
  exact w_ireturn_i cd_184_151 (by decide +kernel) h6
theorem b_184_152 {d : Nat} {Q : (Option Value ⊕ Nat) → mi_H → Prop} (n sl : Nat) (f : Nat → mi_C) {l1 : Nat} {l2 : Int32} {l3 : Int32} {o4 : Option Value} {o5 : Option Value} {fs6 : List Value} {x9 : Nat} (m11 i11 : Nat) (g11 : Nat → Int32) {fs15 : List Value} {x18 : Nat} (m20 i20 : Nat) (g20 : Nat → Int32) (h7 : f l1 = .inr (12, fs6)) (h8 : l1 < n) (h10 : fs6[61]? = some (.ref x9)) (h12 : f x9 = .inl (0, m11, .inl g11)) (h13 : x9 < n ∨ x9 = mi_SC) (h14 : mi_ix l3 m11 i11) (h16 : f l1 = .inr (12, fs15)) (h17 : l1 < n) (h19 : fs15[13]? = some (.ref x18)) (h21 : f x18 = .inl (0, m20, .inl g20)) (h22 : x18 < n ∨ x18 = mi_SC) (h23 : mi_ix l2 m20 i20) (h24 : ¬ (g11 i11) = (g20 i20) → mi_W d 184 197 [some (.ref l1), some (.int l2), some (.int l3), o4, o5] [] (n, sl, f) Q) (h25 : ¬ (¬ (g11 i11) = (g20 i20)) → mi_W d 184 167 [some (.ref l1), some (.int l2), some (.int l3), o4, o5] [] (n, sl, f) Q) : mi_W d 184 152 [some (.ref l1), some (.int l2), some (.int l3), o4, o5] [] (n, sl, f) Q := by
  refine w_aload_n cd_184_152 rfl ?_
  refine w_getfield cd_184_153 (show mt_f 12 181 = some (12, 61) by decide +kernel) h7 h8 h10 ?_
  refine w_iload_n cd_184_156 rfl ?_
  refine w_iaload cd_184_157 h12 h13 h14 ?_
  refine w_aload_n cd_184_158 rfl ?_
  refine w_getfield cd_184_159 (show mt_f 12 80 = some (12, 13) by decide +kernel) h16 h17 h19 ?_
  refine w_iload_n cd_184_162 rfl ?_
  refine w_iaload cd_184_163 h21 h22 h23 ?_
  exact w_if_icmpne cd_184_164 (by decide) h24 h25
theorem b_184_167 {d : Nat} {Q : (Option Value ⊕ Nat) → mi_H → Prop} (n sl : Nat) (f : Nat → mi_C) {l1 : Nat} {l2 : Int32} {l3 : Int32} {o4 : Option Value} {o5 : Option Value} {fs6 : List Value} {x9 : Nat} (m11 i11 : Nat) (g11 : Nat → Int32) {fs15 : List Value} {x18 : Nat} (m20 i20 : Nat) (g20 : Nat → Int32) (h7 : f l1 = .inr (12, fs6)) (h8 : l1 < n) (h10 : fs6[62]? = some (.ref x9)) (h12 : f x9 = .inl (0, m11, .inl g11)) (h13 : x9 < n ∨ x9 = mi_SC) (h14 : mi_ix l3 m11 i11) (h16 : f l1 = .inr (12, fs15)) (h17 : l1 < n) (h19 : fs15[14]? = some (.ref x18)) (h21 : f x18 = .inl (0, m20, .inl g20)) (h22 : x18 < n ∨ x18 = mi_SC) (h23 : mi_ix l2 m20 i20) (h24 : ¬ (g11 i11) = (g20 i20) → mi_W d 184 197 [some (.ref l1), some (.int l2), some (.int l3), o4, o5] [] (n, sl, f) Q) (h25 : ¬ (¬ (g11 i11) = (g20 i20)) → mi_W d 184 182 [some (.ref l1), some (.int l2), some (.int l3), o4, o5] [] (n, sl, f) Q) : mi_W d 184 167 [some (.ref l1), some (.int l2), some (.int l3), o4, o5] [] (n, sl, f) Q := by
  refine w_aload_n cd_184_167 rfl ?_
  refine w_getfield cd_184_168 (show mt_f 12 184 = some (12, 62) by decide +kernel) h7 h8 h10 ?_
  refine w_iload_n cd_184_171 rfl ?_
  refine w_iaload cd_184_172 h12 h13 h14 ?_
  refine w_aload_n cd_184_173 rfl ?_
  refine w_getfield cd_184_174 (show mt_f 12 83 = some (12, 14) by decide +kernel) h16 h17 h19 ?_
  refine w_iload_n cd_184_177 rfl ?_
  refine w_iaload cd_184_178 h21 h22 h23 ?_
  exact w_if_icmpne cd_184_179 (by decide) h24 h25
theorem b_184_182 {d : Nat} {Q : (Option Value ⊕ Nat) → mi_H → Prop} (n sl : Nat) (f : Nat → mi_C) {l1 : Nat} {l2 : Int32} {l3 : Int32} {o4 : Option Value} {o5 : Option Value} {fs6 : List Value} {x9 : Nat} (m11 i11 : Nat) (g11 : Nat → Int32) {fs15 : List Value} {x18 : Nat} (m20 i20 : Nat) (g20 : Nat → Int32) (h7 : f l1 = .inr (12, fs6)) (h8 : l1 < n) (h10 : fs6[63]? = some (.ref x9)) (h12 : f x9 = .inl (0, m11, .inl g11)) (h13 : x9 < n ∨ x9 = mi_SC) (h14 : mi_ix l3 m11 i11) (h16 : f l1 = .inr (12, fs15)) (h17 : l1 < n) (h19 : fs15[15]? = some (.ref x18)) (h21 : f x18 = .inl (0, m20, .inl g20)) (h22 : x18 < n ∨ x18 = mi_SC) (h23 : mi_ix l2 m20 i20) (h24 : (g11 i11) = (g20 i20) → mi_W d 184 199 [some (.ref l1), some (.int l2), some (.int l3), o4, o5] [] (n, sl, f) Q) (h25 : ¬ ((g11 i11) = (g20 i20)) → mi_W d 184 197 [some (.ref l1), some (.int l2), some (.int l3), o4, o5] [] (n, sl, f) Q) : mi_W d 184 182 [some (.ref l1), some (.int l2), some (.int l3), o4, o5] [] (n, sl, f) Q := by
  refine w_aload_n cd_184_182 rfl ?_
  refine w_getfield cd_184_183 (show mt_f 12 187 = some (12, 63) by decide +kernel) h7 h8 h10 ?_
  refine w_iload_n cd_184_186 rfl ?_
  refine w_iaload cd_184_187 h12 h13 h14 ?_
  refine w_aload_n cd_184_188 rfl ?_
  refine w_getfield cd_184_189 (show mt_f 12 86 = some (12, 15) by decide +kernel) h16 h17 h19 ?_
  refine w_iload_n cd_184_192 rfl ?_
  refine w_iaload cd_184_193 h21 h22 h23 ?_
  exact w_if_icmpeq cd_184_194 (by decide) h24 h25
theorem b_184_197 {d : Nat} {Q : (Option Value ⊕ Nat) → mi_H → Prop} (n sl : Nat) (f : Nat → mi_C) {l1 : Nat} {l2 : Int32} {l3 : Int32} {o4 : Option Value} {o5 : Option Value} (h6 : Q (.inl (some (.int 0))) (n, sl, f)) : mi_W d 184 197 [some (.ref l1), some (.int l2), some (.int l3), o4, o5] [] (n, sl, f) Q := by
  refine w_iconst (v := 0) cd_184_197 (by decide) ?_
  exact w_ireturn_i cd_184_198 (by decide +kernel) h6
theorem b_184_199 {d : Nat} {Q : (Option Value ⊕ Nat) → mi_H → Prop} (n sl : Nat) (f : Nat → mi_C) {l1 : Nat} {l2 : Int32} {l3 : Int32} {o4 : Option Value} {o5 : Option Value} {fs6 : List Value} {x9 : Nat} (m11 i11 : Nat) (g11 : Nat → Int32) {fs15 : List Value} (h7 : f l1 = .inr (12, fs6)) (h8 : l1 < n) (h10 : fs6[16]? = some (.ref x9)) (h12 : f x9 = .inl (0, m11, .inl g11)) (h13 : x9 < n ∨ x9 = mi_SC) (h14 : mi_ix l2 m11 i11) (h16 : f l1 = .inr (12, fs15)) (h17 : l1 < n) (h18 : mi_W d 177 0 (mi_en 2 [.ref l1, .int (g11 i11)]) [] (n, sl, f) (mi_Kc d 184 206 [some (.ref l1), some (.int l2), some (.int l3), o4, o5] [] Q)) : mi_W (d + 1) 184 199 [some (.ref l1), some (.int l2), some (.int l3), o4, o5] [] (n, sl, f) Q := by
  refine w_aload_n cd_184_199 rfl ?_
  refine w_aload_n cd_184_200 rfl ?_
  refine w_getfield cd_184_201 (show mt_f 12 89 = some (12, 16) by decide +kernel) h7 h8 h10 ?_
  refine w_iload_n cd_184_204 rfl ?_
  refine w_iaload cd_184_205 h12 h13 h14 ?_
  exact w_invokevirtual cd_184_206 (show mt_m 12 451 = some (177, 0) by decide +kernel) (rest := []) rfl (as := [.ref l1, .int (g11 i11)]) rfl h16 (Or.inl h17) ⟨Nat.le_of_ble_eq_true rfl, Nat.le_of_ble_eq_true rfl, Nat.le_of_ble_eq_true rfl⟩ h18
theorem b_184_209 {d : Nat} {Q : (Option Value ⊕ Nat) → mi_H → Prop} (n sl : Nat) (f : Nat → mi_C) {l1 : Nat} {l2 : Int32} {l3 : Int32} {o4 : Option Value} {o5 : Option Value} {s6 : Int64} {fs7 : List Value} {x10 : Int32} (h8 : f l1 = .inr (12, fs7)) (h9 : l1 < n) (h11 : fs7[46]? = some (.int x10)) (h12 : x10 = (0 : Int32) → mi_W d 184 222 [some (.ref l1), some (.int l2), some (.int l3), some (.long s6), none] [] (n, sl, f) Q) (h13 : ¬ (x10 = (0 : Int32)) → mi_W d 184 217 [some (.ref l1), some (.int l2), some (.int l3), some (.long s6), none] [] (n, sl, f) Q) : mi_W d 184 209 [some (.ref l1), some (.int l2), some (.int l3), o4, o5] [.long s6] (n, sl, f) Q := by
  refine w_lstore_n (ls' := [some (.ref l1), some (.int l2), some (.int l3), some (.long s6), none]) cd_184_209 (Nat.le_of_ble_eq_true rfl) rfl ?_
  refine w_aload_n cd_184_210 rfl ?_
  refine w_getfield cd_184_211 (show mt_f 12 441 = some (12, 46) by decide +kernel) h8 h9 h11 ?_
  exact w_ifeq cd_184_214 (by decide) h12 h13
theorem b_184_217 {d : Nat} {Q : (Option Value ⊕ Nat) → mi_H → Prop} (n sl : Nat) (f : Nat → mi_C) {l1 : Nat} {l2 : Int32} {l3 : Int32} {l4 : Int64} (h5 : mi_W d 184 238 [some (.ref l1), some (.int l2), some (.int l3), some (.long l4), none] [.int 6] (n, sl, f) Q) : mi_W d 184 217 [some (.ref l1), some (.int l2), some (.int l3), some (.long l4), none] [] (n, sl, f) Q := by
  refine w_bipush (v := 6) cd_184_217 (by decide) ?_
  exact w_goto cd_184_219 (by decide) h5
theorem b_184_222 {d : Nat} {Q : (Option Value ⊕ Nat) → mi_H → Prop} (n sl : Nat) (f : Nat → mi_C) {l1 : Nat} {l2 : Int32} {l3 : Int32} {l4 : Int64} {fs5 : List Value} {x8 : Nat} (m10 i10 : Nat) (g10 : Nat → Int64) (h6 : f l1 = .inr (12, fs5)) (h7 : l1 < n) (h9 : fs5[64]? = some (.ref x8)) (h11 : f x8 = .inl (3, m10, .inr (.inl g10))) (h12 : x8 < n) (h13 : mi_ix l3 m10 i10) (h14 : ¬ (lg_cmp l4 (g10 i10)) = (0 : Int32) → mi_W d 184 237 [some (.ref l1), some (.int l2), some (.int l3), some (.long l4), none] [] (n, sl, f) Q) (h15 : ¬ (¬ (lg_cmp l4 (g10 i10)) = (0 : Int32)) → mi_W d 184 233 [some (.ref l1), some (.int l2), some (.int l3), some (.long l4), none] [] (n, sl, f) Q) : mi_W d 184 222 [some (.ref l1), some (.int l2), some (.int l3), some (.long l4), none] [] (n, sl, f) Q := by
  refine w_lload_n cd_184_222 rfl ?_
  refine w_aload_n cd_184_223 rfl ?_
  refine w_getfield cd_184_224 (show mt_f 12 190 = some (12, 64) by decide +kernel) h6 h7 h9 ?_
  refine w_iload_n cd_184_227 rfl ?_
  refine w_laload cd_184_228 h11 h12 h13 ?_
  refine w_lcmp cd_184_229 ?_
  exact w_ifne cd_184_230 (by decide) h14 h15
theorem b_184_233 {d : Nat} {Q : (Option Value ⊕ Nat) → mi_H → Prop} (n sl : Nat) (f : Nat → mi_C) {l1 : Nat} {l2 : Int32} {l3 : Int32} {l4 : Int64} (h5 : mi_W d 184 238 [some (.ref l1), some (.int l2), some (.int l3), some (.long l4), none] [.int 1] (n, sl, f) Q) : mi_W d 184 233 [some (.ref l1), some (.int l2), some (.int l3), some (.long l4), none] [] (n, sl, f) Q := by
  refine w_iconst (v := 1) cd_184_233 (by decide) ?_
  exact w_goto cd_184_234 (by decide) h5
theorem b_184_237 {d : Nat} {Q : (Option Value ⊕ Nat) → mi_H → Prop} (n sl : Nat) (f : Nat → mi_C) {l1 : Nat} {l2 : Int32} {l3 : Int32} {l4 : Int64} (h5 : mi_W d 184 238 [some (.ref l1), some (.int l2), some (.int l3), some (.long l4), none] [.int 0] (n, sl, f) Q) : mi_W d 184 237 [some (.ref l1), some (.int l2), some (.int l3), some (.long l4), none] [] (n, sl, f) Q := by
  refine w_iconst (v := 0) cd_184_237 (by decide) ?_
  exact h5
theorem b_184_238 {d : Nat} {Q : (Option Value ⊕ Nat) → mi_H → Prop} (n sl : Nat) (f : Nat → mi_C) {l1 : Nat} {l2 : Int32} {l3 : Int32} {l4 : Int64} {s5 : Int32} (h6 : Q (.inl (some (.int s5))) (n, sl, f)) : mi_W d 184 238 [some (.ref l1), some (.int l2), some (.int l3), some (.long l4), none] [.int s5] (n, sl, f) Q := by
  exact w_ireturn_i cd_184_238 (by decide +kernel) h6
/-! MarloweHostModel.settle()I -/
set_option maxRecDepth 100000 in
theorem mq_185 : mt_q 185 = my_185 := rfl
set_option maxRecDepth 100000 in
theorem ci_185 : mt_inc 0 my_185.cd = true := by decide +kernel
theorem cd_185_0 : mt_cd 185 0 = some (.iconst 0) := mt_cd_of (q := (0, .iconst 0, 1)) mq_185 ci_185 (List.mem_of_getElem? (i := 0) rfl)
theorem cd_185_1 : mt_cd 185 1 = some (.istore_n 1) := mt_cd_of (q := (1, .istore_n 1, 1)) mq_185 ci_185 (List.mem_of_getElem? (i := 1) rfl)
theorem cd_185_2 : mt_cd 185 2 = some (.iload_n 1) := mt_cd_of (q := (2, .iload_n 1, 1)) mq_185 ci_185 (List.mem_of_getElem? (i := 2) rfl)
theorem cd_185_3 : mt_cd 185 3 = some (.iconst 2) := mt_cd_of (q := (3, .iconst 2, 1)) mq_185 ci_185 (List.mem_of_getElem? (i := 3) rfl)
theorem cd_185_4 : mt_cd 185 4 = some (.if_icmp .ge 121) := mt_cd_of (q := (4, .if_icmp .ge 121, 3)) mq_185 ci_185 (List.mem_of_getElem? (i := 4) rfl)
theorem cd_185_7 : mt_cd 185 7 = some (.iconst 0) := mt_cd_of (q := (7, .iconst 0, 1)) mq_185 ci_185 (List.mem_of_getElem? (i := 5) rfl)
theorem cd_185_8 : mt_cd 185 8 = some (.istore_n 2) := mt_cd_of (q := (8, .istore_n 2, 1)) mq_185 ci_185 (List.mem_of_getElem? (i := 6) rfl)
theorem cd_185_9 : mt_cd 185 9 = some (.iload_n 2) := mt_cd_of (q := (9, .iload_n 2, 1)) mq_185 ci_185 (List.mem_of_getElem? (i := 7) rfl)
theorem cd_185_10 : mt_cd 185 10 = some (.bipush 32) := mt_cd_of (q := (10, .bipush 32, 2)) mq_185 ci_185 (List.mem_of_getElem? (i := 8) rfl)
theorem cd_185_12 : mt_cd 185 12 = some (.if_icmp .ge 107) := mt_cd_of (q := (12, .if_icmp .ge 107, 3)) mq_185 ci_185 (List.mem_of_getElem? (i := 9) rfl)
theorem cd_185_15 : mt_cd 185 15 = some (.aload_n 0) := mt_cd_of (q := (15, .aload_n 0, 1)) mq_185 ci_185 (List.mem_of_getElem? (i := 10) rfl)
theorem cd_185_16 : mt_cd 185 16 = some (.getfield 175) := mt_cd_of (q := (16, .getfield 175, 3)) mq_185 ci_185 (List.mem_of_getElem? (i := 11) rfl)
theorem cd_185_19 : mt_cd 185 19 = some (.iload_n 2) := mt_cd_of (q := (19, .iload_n 2, 1)) mq_185 ci_185 (List.mem_of_getElem? (i := 12) rfl)
theorem cd_185_20 : mt_cd 185 20 = some (.laload) := mt_cd_of (q := (20, .laload, 1)) mq_185 ci_185 (List.mem_of_getElem? (i := 13) rfl)
theorem cd_185_21 : mt_cd 185 21 = some (.aload_n 0) := mt_cd_of (q := (21, .aload_n 0, 1)) mq_185 ci_185 (List.mem_of_getElem? (i := 14) rfl)
theorem cd_185_22 : mt_cd 185 22 = some (.getfield 172) := mt_cd_of (q := (22, .getfield 172, 3)) mq_185 ci_185 (List.mem_of_getElem? (i := 15) rfl)
theorem cd_185_25 : mt_cd 185 25 = some (.iload_n 2) := mt_cd_of (q := (25, .iload_n 2, 1)) mq_185 ci_185 (List.mem_of_getElem? (i := 16) rfl)
theorem cd_185_26 : mt_cd 185 26 = some (.laload) := mt_cd_of (q := (26, .laload, 1)) mq_185 ci_185 (List.mem_of_getElem? (i := 17) rfl)
theorem cd_185_27 : mt_cd 185 27 = some (.lsub) := mt_cd_of (q := (27, .lsub, 1)) mq_185 ci_185 (List.mem_of_getElem? (i := 18) rfl)
theorem cd_185_28 : mt_cd 185 28 = some (.lstore_n 3) := mt_cd_of (q := (28, .lstore_n 3, 1)) mq_185 ci_185 (List.mem_of_getElem? (i := 19) rfl)
theorem cd_185_29 : mt_cd 185 29 = some (.iconst 0) := mt_cd_of (q := (29, .iconst 0, 1)) mq_185 ci_185 (List.mem_of_getElem? (i := 20) rfl)
theorem cd_185_30 : mt_cd 185 30 = some (.istore 5) := mt_cd_of (q := (30, .istore 5, 2)) mq_185 ci_185 (List.mem_of_getElem? (i := 21) rfl)
theorem cd_185_32 : mt_cd 185 32 = some (.iload 5) := mt_cd_of (q := (32, .iload 5, 2)) mq_185 ci_185 (List.mem_of_getElem? (i := 22) rfl)
theorem cd_185_34 : mt_cd 185 34 = some (.aload_n 0) := mt_cd_of (q := (34, .aload_n 0, 1)) mq_185 ci_185 (List.mem_of_getElem? (i := 23) rfl)
theorem cd_185_35 : mt_cd 185 35 = some (.getfield 493) := mt_cd_of (q := (35, .getfield 493, 3)) mq_185 ci_185 (List.mem_of_getElem? (i := 24) rfl)
theorem cd_185_38 : mt_cd 185 38 = some (.if_icmp .ge 52) := mt_cd_of (q := (38, .if_icmp .ge 52, 3)) mq_185 ci_185 (List.mem_of_getElem? (i := 25) rfl)
theorem cd_185_41 : mt_cd 185 41 = some (.iconst 4) := mt_cd_of (q := (41, .iconst 4, 1)) mq_185 ci_185 (List.mem_of_getElem? (i := 26) rfl)
theorem cd_185_42 : mt_cd 185 42 = some (.aload_n 0) := mt_cd_of (q := (42, .aload_n 0, 1)) mq_185 ci_185 (List.mem_of_getElem? (i := 27) rfl)
theorem cd_185_43 : mt_cd 185 43 = some (.getfield 163) := mt_cd_of (q := (43, .getfield 163, 3)) mq_185 ci_185 (List.mem_of_getElem? (i := 28) rfl)
theorem cd_185_46 : mt_cd 185 46 = some (.iload 5) := mt_cd_of (q := (46, .iload 5, 2)) mq_185 ci_185 (List.mem_of_getElem? (i := 29) rfl)
theorem cd_185_48 : mt_cd 185 48 = some (.iaload) := mt_cd_of (q := (48, .iaload, 1)) mq_185 ci_185 (List.mem_of_getElem? (i := 30) rfl)
theorem cd_185_49 : mt_cd 185 49 = some (.imul) := mt_cd_of (q := (49, .imul, 1)) mq_185 ci_185 (List.mem_of_getElem? (i := 31) rfl)
theorem cd_185_50 : mt_cd 185 50 = some (.aload_n 0) := mt_cd_of (q := (50, .aload_n 0, 1)) mq_185 ci_185 (List.mem_of_getElem? (i := 32) rfl)
theorem cd_185_51 : mt_cd 185 51 = some (.getfield 166) := mt_cd_of (q := (51, .getfield 166, 3)) mq_185 ci_185 (List.mem_of_getElem? (i := 33) rfl)
theorem cd_185_54 : mt_cd 185 54 = some (.iload 5) := mt_cd_of (q := (54, .iload 5, 2)) mq_185 ci_185 (List.mem_of_getElem? (i := 34) rfl)
theorem cd_185_56 : mt_cd 185 56 = some (.iaload) := mt_cd_of (q := (56, .iaload, 1)) mq_185 ci_185 (List.mem_of_getElem? (i := 35) rfl)
theorem cd_185_57 : mt_cd 185 57 = some (.iadd) := mt_cd_of (q := (57, .iadd, 1)) mq_185 ci_185 (List.mem_of_getElem? (i := 36) rfl)
theorem cd_185_58 : mt_cd 185 58 = some (.iload_n 2) := mt_cd_of (q := (58, .iload_n 2, 1)) mq_185 ci_185 (List.mem_of_getElem? (i := 37) rfl)
theorem cd_185_59 : mt_cd 185 59 = some (.if_icmp .eq 6) := mt_cd_of (q := (59, .if_icmp .eq 6, 3)) mq_185 ci_185 (List.mem_of_getElem? (i := 38) rfl)
theorem cd_185_62 : mt_cd 185 62 = some (.goto 22) := mt_cd_of (q := (62, .goto 22, 3)) mq_185 ci_185 (List.mem_of_getElem? (i := 39) rfl)
theorem cd_185_65 : mt_cd 185 65 = some (.lload_n 3) := mt_cd_of (q := (65, .lload_n 3, 1)) mq_185 ci_185 (List.mem_of_getElem? (i := 40) rfl)
theorem cd_185_66 : mt_cd 185 66 = some (.aload_n 0) := mt_cd_of (q := (66, .aload_n 0, 1)) mq_185 ci_185 (List.mem_of_getElem? (i := 41) rfl)
theorem cd_185_67 : mt_cd 185 67 = some (.getfield 169) := mt_cd_of (q := (67, .getfield 169, 3)) mq_185 ci_185 (List.mem_of_getElem? (i := 42) rfl)
theorem cd_185_70 : mt_cd 185 70 = some (.iload 5) := mt_cd_of (q := (70, .iload 5, 2)) mq_185 ci_185 (List.mem_of_getElem? (i := 43) rfl)
theorem cd_185_72 : mt_cd 185 72 = some (.laload) := mt_cd_of (q := (72, .laload, 1)) mq_185 ci_185 (List.mem_of_getElem? (i := 44) rfl)
theorem cd_185_73 : mt_cd 185 73 = some (.ladd) := mt_cd_of (q := (73, .ladd, 1)) mq_185 ci_185 (List.mem_of_getElem? (i := 45) rfl)
theorem cd_185_74 : mt_cd 185 74 = some (.lstore_n 3) := mt_cd_of (q := (74, .lstore_n 3, 1)) mq_185 ci_185 (List.mem_of_getElem? (i := 46) rfl)
theorem cd_185_75 : mt_cd 185 75 = some (.lload_n 3) := mt_cd_of (q := (75, .lload_n 3, 1)) mq_185 ci_185 (List.mem_of_getElem? (i := 47) rfl)
theorem cd_185_76 : mt_cd 185 76 = some (.lconst 0) := mt_cd_of (q := (76, .lconst 0, 1)) mq_185 ci_185 (List.mem_of_getElem? (i := 48) rfl)
theorem cd_185_77 : mt_cd 185 77 = some (.lcmp) := mt_cd_of (q := (77, .lcmp, 1)) mq_185 ci_185 (List.mem_of_getElem? (i := 49) rfl)
theorem cd_185_78 : mt_cd 185 78 = some (.ifCond .ge 6) := mt_cd_of (q := (78, .ifCond .ge 6, 3)) mq_185 ci_185 (List.mem_of_getElem? (i := 50) rfl)
theorem cd_185_81 : mt_cd 185 81 = some (.bipush 6) := mt_cd_of (q := (81, .bipush 6, 2)) mq_185 ci_185 (List.mem_of_getElem? (i := 51) rfl)
theorem cd_185_83 : mt_cd 185 83 = some (.ireturn) := mt_cd_of (q := (83, .ireturn, 1)) mq_185 ci_185 (List.mem_of_getElem? (i := 52) rfl)
theorem cd_185_84 : mt_cd 185 84 = some (.iinc 5 1) := mt_cd_of (q := (84, .iinc 5 1, 3)) mq_185 ci_185 (List.mem_of_getElem? (i := 53) rfl)
theorem cd_185_87 : mt_cd 185 87 = some (.goto (-55)) := mt_cd_of (q := (87, .goto (-55), 3)) mq_185 ci_185 (List.mem_of_getElem? (i := 54) rfl)
theorem cd_185_90 : mt_cd 185 90 = some (.lload_n 3) := mt_cd_of (q := (90, .lload_n 3, 1)) mq_185 ci_185 (List.mem_of_getElem? (i := 55) rfl)
theorem cd_185_91 : mt_cd 185 91 = some (.ldc2_w 437) := mt_cd_of (q := (91, .ldc2_w 437, 3)) mq_185 ci_185 (List.mem_of_getElem? (i := 56) rfl)
theorem cd_185_94 : mt_cd 185 94 = some (.lcmp) := mt_cd_of (q := (94, .lcmp, 1)) mq_185 ci_185 (List.mem_of_getElem? (i := 57) rfl)
theorem cd_185_95 : mt_cd 185 95 = some (.ifCond .le 6) := mt_cd_of (q := (95, .ifCond .le 6, 3)) mq_185 ci_185 (List.mem_of_getElem? (i := 58) rfl)
theorem cd_185_98 : mt_cd 185 98 = some (.bipush 6) := mt_cd_of (q := (98, .bipush 6, 2)) mq_185 ci_185 (List.mem_of_getElem? (i := 59) rfl)
theorem cd_185_100 : mt_cd 185 100 = some (.ireturn) := mt_cd_of (q := (100, .ireturn, 1)) mq_185 ci_185 (List.mem_of_getElem? (i := 60) rfl)
theorem cd_185_101 : mt_cd 185 101 = some (.iload_n 1) := mt_cd_of (q := (101, .iload_n 1, 1)) mq_185 ci_185 (List.mem_of_getElem? (i := 61) rfl)
theorem cd_185_102 : mt_cd 185 102 = some (.iconst 1) := mt_cd_of (q := (102, .iconst 1, 1)) mq_185 ci_185 (List.mem_of_getElem? (i := 62) rfl)
theorem cd_185_103 : mt_cd 185 103 = some (.if_icmp .ne 10) := mt_cd_of (q := (103, .if_icmp .ne 10, 3)) mq_185 ci_185 (List.mem_of_getElem? (i := 63) rfl)
theorem cd_185_106 : mt_cd 185 106 = some (.aload_n 0) := mt_cd_of (q := (106, .aload_n 0, 1)) mq_185 ci_185 (List.mem_of_getElem? (i := 64) rfl)
theorem cd_185_107 : mt_cd 185 107 = some (.getfield 175) := mt_cd_of (q := (107, .getfield 175, 3)) mq_185 ci_185 (List.mem_of_getElem? (i := 65) rfl)
theorem cd_185_110 : mt_cd 185 110 = some (.iload_n 2) := mt_cd_of (q := (110, .iload_n 2, 1)) mq_185 ci_185 (List.mem_of_getElem? (i := 66) rfl)
theorem cd_185_111 : mt_cd 185 111 = some (.lload_n 3) := mt_cd_of (q := (111, .lload_n 3, 1)) mq_185 ci_185 (List.mem_of_getElem? (i := 67) rfl)
theorem cd_185_112 : mt_cd 185 112 = some (.lastore) := mt_cd_of (q := (112, .lastore, 1)) mq_185 ci_185 (List.mem_of_getElem? (i := 68) rfl)
theorem cd_185_113 : mt_cd 185 113 = some (.iinc 2 1) := mt_cd_of (q := (113, .iinc 2 1, 3)) mq_185 ci_185 (List.mem_of_getElem? (i := 69) rfl)
theorem cd_185_116 : mt_cd 185 116 = some (.goto (-107)) := mt_cd_of (q := (116, .goto (-107), 3)) mq_185 ci_185 (List.mem_of_getElem? (i := 70) rfl)
theorem cd_185_119 : mt_cd 185 119 = some (.iinc 1 1) := mt_cd_of (q := (119, .iinc 1 1, 3)) mq_185 ci_185 (List.mem_of_getElem? (i := 71) rfl)
theorem cd_185_122 : mt_cd 185 122 = some (.goto (-120)) := mt_cd_of (q := (122, .goto (-120), 3)) mq_185 ci_185 (List.mem_of_getElem? (i := 72) rfl)
theorem cd_185_125 : mt_cd 185 125 = some (.iconst 0) := mt_cd_of (q := (125, .iconst 0, 1)) mq_185 ci_185 (List.mem_of_getElem? (i := 73) rfl)
theorem cd_185_126 : mt_cd 185 126 = some (.ireturn) := mt_cd_of (q := (126, .ireturn, 1)) mq_185 ci_185 (List.mem_of_getElem? (i := 74) rfl)
theorem b_185_0 {d : Nat} {Q : (Option Value ⊕ Nat) → mi_H → Prop} (n sl : Nat) (f : Nat → mi_C) {l1 : Nat} {o2 : Option Value} {o3 : Option Value} {o4 : Option Value} {o5 : Option Value} {o6 : Option Value} (h7 : mi_W d 185 2 [some (.ref l1), some (.int 0), o3, o4, o5, o6] [] (n, sl, f) Q) : mi_W d 185 0 [some (.ref l1), o2, o3, o4, o5, o6] [] (n, sl, f) Q := by
  refine w_iconst (v := 0) cd_185_0 (by decide) ?_
  refine w_istore_n (ls' := [some (.ref l1), some (.int 0), o3, o4, o5, o6]) cd_185_1 (Nat.le_of_ble_eq_true rfl) rfl ?_
  exact h7
theorem b_185_2 {d : Nat} {Q : (Option Value ⊕ Nat) → mi_H → Prop} (n sl : Nat) (f : Nat → mi_C) {l1 : Nat} {l2 : Int32} {o3 : Option Value} {o4 : Option Value} {o5 : Option Value} {o6 : Option Value} (h7 : 2 ≤ l2 → mi_W d 185 125 [some (.ref l1), some (.int l2), o3, o4, o5, o6] [] (n, sl, f) Q) (h8 : ¬ (2 ≤ l2) → mi_W d 185 7 [some (.ref l1), some (.int l2), o3, o4, o5, o6] [] (n, sl, f) Q) : mi_W d 185 2 [some (.ref l1), some (.int l2), o3, o4, o5, o6] [] (n, sl, f) Q := by
  refine w_iload_n cd_185_2 rfl ?_
  refine w_iconst (v := 2) cd_185_3 (by decide) ?_
  exact w_if_icmpge cd_185_4 (by decide) h7 h8
theorem b_185_7 {d : Nat} {Q : (Option Value ⊕ Nat) → mi_H → Prop} (n sl : Nat) (f : Nat → mi_C) {l1 : Nat} {l2 : Int32} {o3 : Option Value} {o4 : Option Value} {o5 : Option Value} {o6 : Option Value} (h7 : mi_W d 185 9 [some (.ref l1), some (.int l2), some (.int 0), o4, o5, o6] [] (n, sl, f) Q) : mi_W d 185 7 [some (.ref l1), some (.int l2), o3, o4, o5, o6] [] (n, sl, f) Q := by
  refine w_iconst (v := 0) cd_185_7 (by decide) ?_
  refine w_istore_n (ls' := [some (.ref l1), some (.int l2), some (.int 0), o4, o5, o6]) cd_185_8 (Nat.le_of_ble_eq_true rfl) rfl ?_
  exact h7
theorem b_185_9 {d : Nat} {Q : (Option Value ⊕ Nat) → mi_H → Prop} (n sl : Nat) (f : Nat → mi_C) {l1 : Nat} {l2 : Int32} {l3 : Int32} {o4 : Option Value} {o5 : Option Value} {o6 : Option Value} (h7 : 32 ≤ l3 → mi_W d 185 119 [some (.ref l1), some (.int l2), some (.int l3), o4, o5, o6] [] (n, sl, f) Q) (h8 : ¬ (32 ≤ l3) → mi_W d 185 15 [some (.ref l1), some (.int l2), some (.int l3), o4, o5, o6] [] (n, sl, f) Q) : mi_W d 185 9 [some (.ref l1), some (.int l2), some (.int l3), o4, o5, o6] [] (n, sl, f) Q := by
  refine w_iload_n cd_185_9 rfl ?_
  refine w_bipush (v := 32) cd_185_10 (by decide) ?_
  exact w_if_icmpge cd_185_12 (by decide) h7 h8
theorem b_185_15 {d : Nat} {Q : (Option Value ⊕ Nat) → mi_H → Prop} (n sl : Nat) (f : Nat → mi_C) {l1 : Nat} {l2 : Int32} {l3 : Int32} {o4 : Option Value} {o5 : Option Value} {o6 : Option Value} {fs7 : List Value} {x10 : Nat} (m12 i12 : Nat) (g12 : Nat → Int64) {fs16 : List Value} {x19 : Nat} (m21 i21 : Nat) (g21 : Nat → Int64) (h8 : f l1 = .inr (12, fs7)) (h9 : l1 < n) (h11 : fs7[56]? = some (.ref x10)) (h13 : f x10 = .inl (3, m12, .inr (.inl g12))) (h14 : x10 < n) (h15 : mi_ix l3 m12 i12) (h17 : f l1 = .inr (12, fs16)) (h18 : l1 < n) (h20 : fs16[55]? = some (.ref x19)) (h22 : f x19 = .inl (3, m21, .inr (.inl g21))) (h23 : x19 < n) (h24 : mi_ix l3 m21 i21) (h25 : mi_W d 185 32 [some (.ref l1), some (.int l2), some (.int l3), some (.long ((g12 i12) - (g21 i21))), none, some (.int 0)] [] (n, sl, f) Q) : mi_W d 185 15 [some (.ref l1), some (.int l2), some (.int l3), o4, o5, o6] [] (n, sl, f) Q := by
  refine w_aload_n cd_185_15 rfl ?_
  refine w_getfield cd_185_16 (show mt_f 12 175 = some (12, 56) by decide +kernel) h8 h9 h11 ?_
  refine w_iload_n cd_185_19 rfl ?_
  refine w_laload cd_185_20 h13 h14 h15 ?_
  refine w_aload_n cd_185_21 rfl ?_
  refine w_getfield cd_185_22 (show mt_f 12 172 = some (12, 55) by decide +kernel) h17 h18 h20 ?_
  refine w_iload_n cd_185_25 rfl ?_
  refine w_laload cd_185_26 h22 h23 h24 ?_
  refine w_lsub cd_185_27 ?_
  refine w_lstore_n (ls' := [some (.ref l1), some (.int l2), some (.int l3), some (.long ((g12 i12) - (g21 i21))), none, o6]) cd_185_28 (Nat.le_of_ble_eq_true rfl) rfl ?_
  refine w_iconst (v := 0) cd_185_29 (by decide) ?_
  refine w_istore (ls' := [some (.ref l1), some (.int l2), some (.int l3), some (.long ((g12 i12) - (g21 i21))), none, some (.int 0)]) cd_185_30 (Nat.le_of_ble_eq_true rfl) rfl ?_
  exact h25
theorem b_185_32 {d : Nat} {Q : (Option Value ⊕ Nat) → mi_H → Prop} (n sl : Nat) (f : Nat → mi_C) {l1 : Nat} {l2 : Int32} {l3 : Int32} {l4 : Int64} {l5 : Int32} {fs6 : List Value} {x9 : Int32} (h7 : f l1 = .inr (12, fs6)) (h8 : l1 < n) (h10 : fs6[48]? = some (.int x9)) (h11 : x9 ≤ l5 → mi_W d 185 90 [some (.ref l1), some (.int l2), some (.int l3), some (.long l4), none, some (.int l5)] [] (n, sl, f) Q) (h12 : ¬ (x9 ≤ l5) → mi_W d 185 41 [some (.ref l1), some (.int l2), some (.int l3), some (.long l4), none, some (.int l5)] [] (n, sl, f) Q) : mi_W d 185 32 [some (.ref l1), some (.int l2), some (.int l3), some (.long l4), none, some (.int l5)] [] (n, sl, f) Q := by
  refine w_iload cd_185_32 rfl ?_
  refine w_aload_n cd_185_34 rfl ?_
  refine w_getfield cd_185_35 (show mt_f 12 493 = some (12, 48) by decide +kernel) h7 h8 h10 ?_
  exact w_if_icmpge cd_185_38 (by decide) h11 h12
theorem b_185_41 {d : Nat} {Q : (Option Value ⊕ Nat) → mi_H → Prop} (n sl : Nat) (f : Nat → mi_C) {l1 : Nat} {l2 : Int32} {l3 : Int32} {l4 : Int64} {l5 : Int32} {fs6 : List Value} {x9 : Nat} (m11 i11 : Nat) (g11 : Nat → Int32) {fs15 : List Value} {x18 : Nat} (m20 i20 : Nat) (g20 : Nat → Int32) (h7 : f l1 = .inr (12, fs6)) (h8 : l1 < n) (h10 : fs6[52]? = some (.ref x9)) (h12 : f x9 = .inl (0, m11, .inl g11)) (h13 : x9 < n ∨ x9 = mi_SC) (h14 : mi_ix l5 m11 i11) (h16 : f l1 = .inr (12, fs15)) (h17 : l1 < n) (h19 : fs15[53]? = some (.ref x18)) (h21 : f x18 = .inl (0, m20, .inl g20)) (h22 : x18 < n ∨ x18 = mi_SC) (h23 : mi_ix l5 m20 i20) (h24 : ((4 * (g11 i11)) + (g20 i20)) = l3 → mi_W d 185 65 [some (.ref l1), some (.int l2), some (.int l3), some (.long l4), none, some (.int l5)] [] (n, sl, f) Q) (h25 : ¬ (((4 * (g11 i11)) + (g20 i20)) = l3) → mi_W d 185 62 [some (.ref l1), some (.int l2), some (.int l3), some (.long l4), none, some (.int l5)] [] (n, sl, f) Q) : mi_W d 185 41 [some (.ref l1), some (.int l2), some (.int l3), some (.long l4), none, some (.int l5)] [] (n, sl, f) Q := by
  refine w_iconst (v := 4) cd_185_41 (by decide) ?_
  refine w_aload_n cd_185_42 rfl ?_
  refine w_getfield cd_185_43 (show mt_f 12 163 = some (12, 52) by decide +kernel) h7 h8 h10 ?_
  refine w_iload cd_185_46 rfl ?_
  refine w_iaload cd_185_48 h12 h13 h14 ?_
  refine w_imul cd_185_49 ?_
  refine w_aload_n cd_185_50 rfl ?_
  refine w_getfield cd_185_51 (show mt_f 12 166 = some (12, 53) by decide +kernel) h16 h17 h19 ?_
  refine w_iload cd_185_54 rfl ?_
  refine w_iaload cd_185_56 h21 h22 h23 ?_
  refine w_iadd cd_185_57 ?_
  refine w_iload_n cd_185_58 rfl ?_
  exact w_if_icmpeq cd_185_59 (by decide) h24 h25
theorem b_185_62 {d : Nat} {Q : (Option Value ⊕ Nat) → mi_H → Prop} (n sl : Nat) (f : Nat → mi_C) {l1 : Nat} {l2 : Int32} {l3 : Int32} {l4 : Int64} {l5 : Int32} (h6 : mi_W d 185 84 [some (.ref l1), some (.int l2), some (.int l3), some (.long l4), none, some (.int l5)] [] (n, sl, f) Q) : mi_W d 185 62 [some (.ref l1), some (.int l2), some (.int l3), some (.long l4), none, some (.int l5)] [] (n, sl, f) Q := by
  exact w_goto cd_185_62 (by decide) h6
theorem b_185_65 {d : Nat} {Q : (Option Value ⊕ Nat) → mi_H → Prop} (n sl : Nat) (f : Nat → mi_C) {l1 : Nat} {l2 : Int32} {l3 : Int32} {l4 : Int64} {l5 : Int32} {fs6 : List Value} {x9 : Nat} (m11 i11 : Nat) (g11 : Nat → Int64) (h7 : f l1 = .inr (12, fs6)) (h8 : l1 < n) (h10 : fs6[54]? = some (.ref x9)) (h12 : f x9 = .inl (3, m11, .inr (.inl g11))) (h13 : x9 < n) (h14 : mi_ix l5 m11 i11) (h15 : (0 : Int32) ≤ (lg_cmp (l4 + (g11 i11)) 0) → mi_W d 185 84 [some (.ref l1), some (.int l2), some (.int l3), some (.long (l4 + (g11 i11))), none, some (.int l5)] [] (n, sl, f) Q) (h16 : ¬ ((0 : Int32) ≤ (lg_cmp (l4 + (g11 i11)) 0)) → mi_W d 185 81 [some (.ref l1), some (.int l2), some (.int l3), some (.long (l4 + (g11 i11))), none, some (.int l5)] [] (n, sl, f) Q) : mi_W d 185 65 [some (.ref l1), some (.int l2), some (.int l3), some (.long l4), none, some (.int l5)] [] (n, sl, f) Q := by
  refine w_lload_n cd_185_65 rfl ?_
  refine w_aload_n cd_185_66 rfl ?_
  refine w_getfield cd_185_67 (show mt_f 12 169 = some (12, 54) by decide +kernel) h7 h8 h10 ?_
  refine w_iload cd_185_70 rfl ?_
  refine w_laload cd_185_72 h12 h13 h14 ?_
  refine w_ladd cd_185_73 ?_
  refine w_lstore_n (ls' := [some (.ref l1), some (.int l2), some (.int l3), some (.long (l4 + (g11 i11))), none, some (.int l5)]) cd_185_74 (Nat.le_of_ble_eq_true rfl) rfl ?_
  refine w_lload_n cd_185_75 rfl ?_
  refine w_lconst (lv := 0) cd_185_76 (by decide) ?_
  refine w_lcmp cd_185_77 ?_
  exact w_ifge cd_185_78 (by decide) h15 h16
theorem b_185_81 {d : Nat} {Q : (Option Value ⊕ Nat) → mi_H → Prop} (n sl : Nat) (f : Nat → mi_C) {l1 : Nat} {l2 : Int32} {l3 : Int32} {l4 : Int64} {l5 : Int32} (h6 : Q (.inl (some (.int 6))) (n, sl, f)) : mi_W d 185 81 [some (.ref l1), some (.int l2), some (.int l3), some (.long l4), none, some (.int l5)] [] (n, sl, f) Q := by
  refine w_bipush (v := 6) cd_185_81 (by decide) ?_
  exact w_ireturn_i cd_185_83 (by decide +kernel) h6
theorem b_185_84 {d : Nat} {Q : (Option Value ⊕ Nat) → mi_H → Prop} (n sl : Nat) (f : Nat → mi_C) {l1 : Nat} {l2 : Int32} {l3 : Int32} {l4 : Int64} {l5 : Int32} (h6 : mi_W d 185 32 [some (.ref l1), some (.int l2), some (.int l3), some (.long l4), none, some (.int (l5 + 1))] [] (n, sl, f) Q) : mi_W d 185 84 [some (.ref l1), some (.int l2), some (.int l3), some (.long l4), none, some (.int l5)] [] (n, sl, f) Q := by
  refine w_iinc (v := 1) (ls' := [some (.ref l1), some (.int l2), some (.int l3), some (.long l4), none, some (.int (l5 + 1))]) cd_185_84 rfl (by decide) rfl ?_
  exact w_goto cd_185_87 (by decide) h6
theorem b_185_90 {d : Nat} {Q : (Option Value ⊕ Nat) → mi_H → Prop} (n sl : Nat) (f : Nat → mi_C) {l1 : Nat} {l2 : Int32} {l3 : Int32} {l4 : Int64} {l5 : Int32} (h6 : (lg_cmp l4 4611686018427387904) ≤ (0 : Int32) → mi_W d 185 101 [some (.ref l1), some (.int l2), some (.int l3), some (.long l4), none, some (.int l5)] [] (n, sl, f) Q) (h7 : ¬ ((lg_cmp l4 4611686018427387904) ≤ (0 : Int32)) → mi_W d 185 98 [some (.ref l1), some (.int l2), some (.int l3), some (.long l4), none, some (.int l5)] [] (n, sl, f) Q) : mi_W d 185 90 [some (.ref l1), some (.int l2), some (.int l3), some (.long l4), none, some (.int l5)] [] (n, sl, f) Q := by
  refine w_lload_n cd_185_90 rfl ?_
  refine w_ldc2_w (lv := 4611686018427387904) cd_185_91 (by decide +kernel) ?_
  refine w_lcmp cd_185_94 ?_
  exact w_ifle cd_185_95 (by decide) h6 h7
theorem b_185_98 {d : Nat} {Q : (Option Value ⊕ Nat) → mi_H → Prop} (n sl : Nat) (f : Nat → mi_C) {l1 : Nat} {l2 : Int32} {l3 : Int32} {l4 : Int64} {l5 : Int32} (h6 : Q (.inl (some (.int 6))) (n, sl, f)) : mi_W d 185 98 [some (.ref l1), some (.int l2), some (.int l3), some (.long l4), none, some (.int l5)] [] (n, sl, f) Q := by
  refine w_bipush (v := 6) cd_185_98 (by decide) ?_
  exact w_ireturn_i cd_185_100 (by decide +kernel) h6
theorem b_185_101 {d : Nat} {Q : (Option Value ⊕ Nat) → mi_H → Prop} (n sl : Nat) (f : Nat → mi_C) {l1 : Nat} {l2 : Int32} {l3 : Int32} {l4 : Int64} {l5 : Int32} (h6 : ¬ l2 = 1 → mi_W d 185 113 [some (.ref l1), some (.int l2), some (.int l3), some (.long l4), none, some (.int l5)] [] (n, sl, f) Q) (h7 : ¬ (¬ l2 = 1) → mi_W d 185 106 [some (.ref l1), some (.int l2), some (.int l3), some (.long l4), none, some (.int l5)] [] (n, sl, f) Q) : mi_W d 185 101 [some (.ref l1), some (.int l2), some (.int l3), some (.long l4), none, some (.int l5)] [] (n, sl, f) Q := by
  refine w_iload_n cd_185_101 rfl ?_
  refine w_iconst (v := 1) cd_185_102 (by decide) ?_
  exact w_if_icmpne cd_185_103 (by decide) h6 h7
theorem b_185_106 {d : Nat} {Q : (Option Value ⊕ Nat) → mi_H → Prop} (n sl : Nat) (f : Nat → mi_C) {l1 : Nat} {l2 : Int32} {l3 : Int32} {l4 : Int64} {l5 : Int32} {fs6 : List Value} {x9 : Nat} (m11 i11 : Nat) (g11 : Nat → Int64) (h7 : f l1 = .inr (12, fs6)) (h8 : l1 < n) (h10 : fs6[56]? = some (.ref x9)) (h12 : f x9 = .inl (3, m11, .inr (.inl g11))) (h13 : x9 < n) (h14 : mi_ix l3 m11 i11) (h15 : mi_W d 185 113 [some (.ref l1), some (.int l2), some (.int l3), some (.long l4), none, some (.int l5)] [] (n, sl, (va_up f x9 (.inl (3, m11, .inr (.inl (vp_updL g11 i11 l4)))))) Q) : mi_W d 185 106 [some (.ref l1), some (.int l2), some (.int l3), some (.long l4), none, some (.int l5)] [] (n, sl, f) Q := by
  refine w_aload_n cd_185_106 rfl ?_
  refine w_getfield cd_185_107 (show mt_f 12 175 = some (12, 56) by decide +kernel) h7 h8 h10 ?_
  refine w_iload_n cd_185_110 rfl ?_
  refine w_lload_n cd_185_111 rfl ?_
  refine w_lastore cd_185_112 h12 h13 h14 ?_
  exact h15
theorem b_185_113 {d : Nat} {Q : (Option Value ⊕ Nat) → mi_H → Prop} (n sl : Nat) (f : Nat → mi_C) {l1 : Nat} {l2 : Int32} {l3 : Int32} {l4 : Int64} {l5 : Int32} (h6 : mi_W d 185 9 [some (.ref l1), some (.int l2), some (.int (l3 + 1)), some (.long l4), none, some (.int l5)] [] (n, sl, f) Q) : mi_W d 185 113 [some (.ref l1), some (.int l2), some (.int l3), some (.long l4), none, some (.int l5)] [] (n, sl, f) Q := by
  refine w_iinc (v := 1) (ls' := [some (.ref l1), some (.int l2), some (.int (l3 + 1)), some (.long l4), none, some (.int l5)]) cd_185_113 rfl (by decide) rfl ?_
  exact w_goto cd_185_116 (by decide) h6
theorem b_185_119 {d : Nat} {Q : (Option Value ⊕ Nat) → mi_H → Prop} (n sl : Nat) (f : Nat → mi_C) {l1 : Nat} {l2 : Int32} {l3 : Int32} {o4 : Option Value} {o5 : Option Value} {o6 : Option Value} (h7 : mi_W d 185 2 [some (.ref l1), some (.int (l2 + 1)), some (.int l3), o4, o5, o6] [] (n, sl, f) Q) : mi_W d 185 119 [some (.ref l1), some (.int l2), some (.int l3), o4, o5, o6] [] (n, sl, f) Q := by
  refine w_iinc (v := 1) (ls' := [some (.ref l1), some (.int (l2 + 1)), some (.int l3), o4, o5, o6]) cd_185_119 rfl (by decide) rfl ?_
  exact w_goto cd_185_122 (by decide) h7
theorem b_185_125 {d : Nat} {Q : (Option Value ⊕ Nat) → mi_H → Prop} (n sl : Nat) (f : Nat → mi_C) {l1 : Nat} {l2 : Int32} {o3 : Option Value} {o4 : Option Value} {o5 : Option Value} {o6 : Option Value} (h7 : Q (.inl (some (.int 0))) (n, sl, f)) : mi_W d 185 125 [some (.ref l1), some (.int l2), o3, o4, o5, o6] [] (n, sl, f) Q := by
  refine w_iconst (v := 0) cd_185_125 (by decide) ?_
  exact w_ireturn_i cd_185_126 (by decide +kernel) h7
/-! MarloweHostModel.wallet(IIJ)J -/
set_option maxRecDepth 100000 in
theorem mq_186 : mt_q 186 = my_186 := rfl
set_option maxRecDepth 100000 in
theorem ci_186 : mt_inc 0 my_186.cd = true := by decide +kernel
theorem cd_186_0 : mt_cd 186 0 = some (.aload_n 0) := mt_cd_of (q := (0, .aload_n 0, 1)) mq_186 ci_186 (List.mem_of_getElem? (i := 0) rfl)
theorem cd_186_1 : mt_cd 186 1 = some (.iconst 0) := mt_cd_of (q := (1, .iconst 0, 1)) mq_186 ci_186 (List.mem_of_getElem? (i := 1) rfl)
theorem cd_186_2 : mt_cd 186 2 = some (.putfield 248) := mt_cd_of (q := (2, .putfield 248, 3)) mq_186 ci_186 (List.mem_of_getElem? (i := 2) rfl)
theorem cd_186_5 : mt_cd 186 5 = some (.aload_n 0) := mt_cd_of (q := (5, .aload_n 0, 1)) mq_186 ci_186 (List.mem_of_getElem? (i := 3) rfl)
theorem cd_186_6 : mt_cd 186 6 = some (.iload_n 1) := mt_cd_of (q := (6, .iload_n 1, 1)) mq_186 ci_186 (List.mem_of_getElem? (i := 4) rfl)
theorem cd_186_7 : mt_cd 186 7 = some (.i2l) := mt_cd_of (q := (7, .i2l, 1)) mq_186 ci_186 (List.mem_of_getElem? (i := 5) rfl)
theorem cd_186_8 : mt_cd 186 8 = some (.lconst 0) := mt_cd_of (q := (8, .lconst 0, 1)) mq_186 ci_186 (List.mem_of_getElem? (i := 6) rfl)
theorem cd_186_9 : mt_cd 186 9 = some (.ldc2_w 542) := mt_cd_of (q := (9, .ldc2_w 542, 3)) mq_186 ci_186 (List.mem_of_getElem? (i := 7) rfl)
theorem cd_186_12 : mt_cd 186 12 = some (.invokestatic 268) := mt_cd_of (q := (12, .invokestatic 268, 3)) mq_186 ci_186 (List.mem_of_getElem? (i := 8) rfl)
theorem cd_186_15 : mt_cd 186 15 = some (.ifCond .eq 26) := mt_cd_of (q := (15, .ifCond .eq 26, 3)) mq_186 ci_186 (List.mem_of_getElem? (i := 9) rfl)
theorem cd_186_18 : mt_cd 186 18 = some (.iload_n 2) := mt_cd_of (q := (18, .iload_n 2, 1)) mq_186 ci_186 (List.mem_of_getElem? (i := 10) rfl)
theorem cd_186_19 : mt_cd 186 19 = some (.i2l) := mt_cd_of (q := (19, .i2l, 1)) mq_186 ci_186 (List.mem_of_getElem? (i := 11) rfl)
theorem cd_186_20 : mt_cd 186 20 = some (.lconst 0) := mt_cd_of (q := (20, .lconst 0, 1)) mq_186 ci_186 (List.mem_of_getElem? (i := 12) rfl)
theorem cd_186_21 : mt_cd 186 21 = some (.ldc2_w 544) := mt_cd_of (q := (21, .ldc2_w 544, 3)) mq_186 ci_186 (List.mem_of_getElem? (i := 13) rfl)
theorem cd_186_24 : mt_cd 186 24 = some (.invokestatic 268) := mt_cd_of (q := (24, .invokestatic 268, 3)) mq_186 ci_186 (List.mem_of_getElem? (i := 14) rfl)
theorem cd_186_27 : mt_cd 186 27 = some (.ifCond .eq 14) := mt_cd_of (q := (27, .ifCond .eq 14, 3)) mq_186 ci_186 (List.mem_of_getElem? (i := 15) rfl)
theorem cd_186_30 : mt_cd 186 30 = some (.lload_n 3) := mt_cd_of (q := (30, .lload_n 3, 1)) mq_186 ci_186 (List.mem_of_getElem? (i := 16) rfl)
theorem cd_186_31 : mt_cd 186 31 = some (.lconst 0) := mt_cd_of (q := (31, .lconst 0, 1)) mq_186 ci_186 (List.mem_of_getElem? (i := 17) rfl)
theorem cd_186_32 : mt_cd 186 32 = some (.ldc2_w 546) := mt_cd_of (q := (32, .ldc2_w 546, 3)) mq_186 ci_186 (List.mem_of_getElem? (i := 18) rfl)
theorem cd_186_35 : mt_cd 186 35 = some (.invokestatic 268) := mt_cd_of (q := (35, .invokestatic 268, 3)) mq_186 ci_186 (List.mem_of_getElem? (i := 19) rfl)
theorem cd_186_38 : mt_cd 186 38 = some (.ifCond .ne 7) := mt_cd_of (q := (38, .ifCond .ne 7, 3)) mq_186 ci_186 (List.mem_of_getElem? (i := 20) rfl)
theorem cd_186_41 : mt_cd 186 41 = some (.iconst 1) := mt_cd_of (q := (41, .iconst 1, 1)) mq_186 ci_186 (List.mem_of_getElem? (i := 21) rfl)
theorem cd_186_42 : mt_cd 186 42 = some (.goto 4) := mt_cd_of (q := (42, .goto 4, 3)) mq_186 ci_186 (List.mem_of_getElem? (i := 22) rfl)
theorem cd_186_45 : mt_cd 186 45 = some (.iconst 0) := mt_cd_of (q := (45, .iconst 0, 1)) mq_186 ci_186 (List.mem_of_getElem? (i := 23) rfl)
theorem cd_186_46 : mt_cd 186 46 = some (.iconst 1) := mt_cd_of (q := (46, .iconst 1, 1)) mq_186 ci_186 (List.mem_of_getElem? (i := 24) rfl)
theorem cd_186_47 : mt_cd 186 47 = some (.invokevirtual 254) := mt_cd_of (q := (47, .invokevirtual 254, 3)) mq_186 ci_186 (List.mem_of_getElem? (i := 25) rfl)
theorem cd_186_50 : mt_cd 186 50 = some (.ifCond .eq 5) := mt_cd_of (q := (50, .ifCond .eq 5, 3)) mq_186 ci_186 (List.mem_of_getElem? (i := 26) rfl)
theorem cd_186_53 : mt_cd 186 53 = some (.lconst 0) := mt_cd_of (q := (53, .lconst 0, 1)) mq_186 ci_186 (List.mem_of_getElem? (i := 27) rfl)
theorem cd_186_54 : mt_cd 186 54 = some (.lreturn) := mt_cd_of (q := (54, .lreturn, 1)) mq_186 ci_186 (List.mem_of_getElem? (i := 28) rfl)
theorem cd_186_55 : mt_cd 186 55 = some (.aload_n 0) := mt_cd_of (q := (55, .aload_n 0, 1)) mq_186 ci_186 (List.mem_of_getElem? (i := 29) rfl)
theorem cd_186_56 : mt_cd 186 56 = some (.getfield 175) := mt_cd_of (q := (56, .getfield 175, 3)) mq_186 ci_186 (List.mem_of_getElem? (i := 30) rfl)
theorem cd_186_59 : mt_cd 186 59 = some (.iconst 4) := mt_cd_of (q := (59, .iconst 4, 1)) mq_186 ci_186 (List.mem_of_getElem? (i := 31) rfl)
theorem cd_186_60 : mt_cd 186 60 = some (.iload_n 1) := mt_cd_of (q := (60, .iload_n 1, 1)) mq_186 ci_186 (List.mem_of_getElem? (i := 32) rfl)
theorem cd_186_61 : mt_cd 186 61 = some (.imul) := mt_cd_of (q := (61, .imul, 1)) mq_186 ci_186 (List.mem_of_getElem? (i := 33) rfl)
theorem cd_186_62 : mt_cd 186 62 = some (.iload_n 2) := mt_cd_of (q := (62, .iload_n 2, 1)) mq_186 ci_186 (List.mem_of_getElem? (i := 34) rfl)
theorem cd_186_63 : mt_cd 186 63 = some (.iadd) := mt_cd_of (q := (63, .iadd, 1)) mq_186 ci_186 (List.mem_of_getElem? (i := 35) rfl)
theorem cd_186_64 : mt_cd 186 64 = some (.laload) := mt_cd_of (q := (64, .laload, 1)) mq_186 ci_186 (List.mem_of_getElem? (i := 36) rfl)
theorem cd_186_65 : mt_cd 186 65 = some (.lstore 5) := mt_cd_of (q := (65, .lstore 5, 2)) mq_186 ci_186 (List.mem_of_getElem? (i := 37) rfl)
theorem cd_186_67 : mt_cd 186 67 = some (.aload_n 0) := mt_cd_of (q := (67, .aload_n 0, 1)) mq_186 ci_186 (List.mem_of_getElem? (i := 38) rfl)
theorem cd_186_68 : mt_cd 186 68 = some (.getfield 175) := mt_cd_of (q := (68, .getfield 175, 3)) mq_186 ci_186 (List.mem_of_getElem? (i := 39) rfl)
theorem cd_186_71 : mt_cd 186 71 = some (.iconst 4) := mt_cd_of (q := (71, .iconst 4, 1)) mq_186 ci_186 (List.mem_of_getElem? (i := 40) rfl)
theorem cd_186_72 : mt_cd 186 72 = some (.iload_n 1) := mt_cd_of (q := (72, .iload_n 1, 1)) mq_186 ci_186 (List.mem_of_getElem? (i := 41) rfl)
theorem cd_186_73 : mt_cd 186 73 = some (.imul) := mt_cd_of (q := (73, .imul, 1)) mq_186 ci_186 (List.mem_of_getElem? (i := 42) rfl)
theorem cd_186_74 : mt_cd 186 74 = some (.iload_n 2) := mt_cd_of (q := (74, .iload_n 2, 1)) mq_186 ci_186 (List.mem_of_getElem? (i := 43) rfl)
theorem cd_186_75 : mt_cd 186 75 = some (.iadd) := mt_cd_of (q := (75, .iadd, 1)) mq_186 ci_186 (List.mem_of_getElem? (i := 44) rfl)
theorem cd_186_76 : mt_cd 186 76 = some (.lload_n 3) := mt_cd_of (q := (76, .lload_n 3, 1)) mq_186 ci_186 (List.mem_of_getElem? (i := 45) rfl)
theorem cd_186_77 : mt_cd 186 77 = some (.lastore) := mt_cd_of (q := (77, .lastore, 1)) mq_186 ci_186 (List.mem_of_getElem? (i := 46) rfl)
theorem cd_186_78 : mt_cd 186 78 = some (.lload 5) := mt_cd_of (q := (78, .lload 5, 2)) mq_186 ci_186 (List.mem_of_getElem? (i := 47) rfl)
theorem cd_186_80 : mt_cd 186 80 = some (.lreturn) := mt_cd_of (q := (80, .lreturn, 1)) mq_186 ci_186 (List.mem_of_getElem? (i := 48) rfl)
theorem b_186_0 {d : Nat} {Q : (Option Value ⊕ Nat) → mi_H → Prop} (n sl : Nat) (f : Nat → mi_C) {l1 : Nat} {l2 : Int32} {l3 : Int32} {l4 : Int64} {o5 : Option Value} {o6 : Option Value} {fs7 : List Value} (h8 : f l1 = .inr (12, fs7)) (h9 : l1 < n) (h10 : 0 < fs7.length) (h11 : mi_W d 142 0 (mi_en 6 [.long ((l2 : Int32).toInt64), .long 0, .long 7]) [] (n, sl, (va_up f l1 (.inr (12, fs7.set 0 (.int 0))))) (mi_Kc d 186 12 [some (.ref l1), some (.int l2), some (.int l3), some (.long l4), none, o5, o6] [.ref l1] Q)) : mi_W (d + 1) 186 0 [some (.ref l1), some (.int l2), some (.int l3), some (.long l4), none, o5, o6] [] (n, sl, f) Q := by
  refine w_aload_n cd_186_0 rfl ?_
  refine w_iconst (v := 0) cd_186_1 (by decide) ?_
  refine w_putfield (w := .int 0) cd_186_2 (show mt_f 12 248 = some (12, 0) by decide +kernel) h8 h9 ⟨h10, rfl, Or.inl (by decide)⟩ ?_
  refine w_aload_n cd_186_5 rfl ?_
  refine w_iload_n cd_186_6 rfl ?_
  refine w_i2l cd_186_7 ?_
  refine w_lconst (lv := 0) cd_186_8 (by decide) ?_
  refine w_ldc2_w (lv := 7) cd_186_9 (by decide +kernel) ?_
  exact w_invokestatic cd_186_12 (show mt_m 12 268 = some (142, 4) by decide +kernel) (by decide) (rest := [.ref l1]) rfl (as := [.long ((l2 : Int32).toInt64), .long 0, .long 7]) rfl ⟨Nat.le_of_ble_eq_true rfl, Nat.le_of_ble_eq_true rfl, Nat.le_of_ble_eq_true rfl⟩ h11
theorem b_186_15 {d : Nat} {Q : (Option Value ⊕ Nat) → mi_H → Prop} (n sl : Nat) (f : Nat → mi_C) {l1 : Nat} {l2 : Int32} {l3 : Int32} {l4 : Int64} {o5 : Option Value} {o6 : Option Value} {s7 : Int32} {s8 : Nat} (h9 : s7 = (0 : Int32) → mi_W d 186 41 [some (.ref l1), some (.int l2), some (.int l3), some (.long l4), none, o5, o6] [.ref s8] (n, sl, f) Q) (h10 : ¬ (s7 = (0 : Int32)) → mi_W d 186 18 [some (.ref l1), some (.int l2), some (.int l3), some (.long l4), none, o5, o6] [.ref s8] (n, sl, f) Q) : mi_W d 186 15 [some (.ref l1), some (.int l2), some (.int l3), some (.long l4), none, o5, o6] [.int s7, .ref s8] (n, sl, f) Q := by
  exact w_ifeq cd_186_15 (by decide) h9 h10
theorem b_186_18 {d : Nat} {Q : (Option Value ⊕ Nat) → mi_H → Prop} (n sl : Nat) (f : Nat → mi_C) {l1 : Nat} {l2 : Int32} {l3 : Int32} {l4 : Int64} {o5 : Option Value} {o6 : Option Value} {s7 : Nat} (h8 : mi_W d 142 0 (mi_en 6 [.long ((l3 : Int32).toInt64), .long 0, .long 3]) [] (n, sl, f) (mi_Kc d 186 24 [some (.ref l1), some (.int l2), some (.int l3), some (.long l4), none, o5, o6] [.ref s7] Q)) : mi_W (d + 1) 186 18 [some (.ref l1), some (.int l2), some (.int l3), some (.long l4), none, o5, o6] [.ref s7] (n, sl, f) Q := by
  refine w_iload_n cd_186_18 rfl ?_
  refine w_i2l cd_186_19 ?_
  refine w_lconst (lv := 0) cd_186_20 (by decide) ?_
  refine w_ldc2_w (lv := 3) cd_186_21 (by decide +kernel) ?_
  exact w_invokestatic cd_186_24 (show mt_m 12 268 = some (142, 4) by decide +kernel) (by decide) (rest := [.ref s7]) rfl (as := [.long ((l3 : Int32).toInt64), .long 0, .long 3]) rfl ⟨Nat.le_of_ble_eq_true rfl, Nat.le_of_ble_eq_true rfl, Nat.le_of_ble_eq_true rfl⟩ h8
theorem b_186_27 {d : Nat} {Q : (Option Value ⊕ Nat) → mi_H → Prop} (n sl : Nat) (f : Nat → mi_C) {l1 : Nat} {l2 : Int32} {l3 : Int32} {l4 : Int64} {o5 : Option Value} {o6 : Option Value} {s7 : Int32} {s8 : Nat} (h9 : s7 = (0 : Int32) → mi_W d 186 41 [some (.ref l1), some (.int l2), some (.int l3), some (.long l4), none, o5, o6] [.ref s8] (n, sl, f) Q) (h10 : ¬ (s7 = (0 : Int32)) → mi_W d 186 30 [some (.ref l1), some (.int l2), some (.int l3), some (.long l4), none, o5, o6] [.ref s8] (n, sl, f) Q) : mi_W d 186 27 [some (.ref l1), some (.int l2), some (.int l3), some (.long l4), none, o5, o6] [.int s7, .ref s8] (n, sl, f) Q := by
  exact w_ifeq cd_186_27 (by decide) h9 h10
theorem b_186_30 {d : Nat} {Q : (Option Value ⊕ Nat) → mi_H → Prop} (n sl : Nat) (f : Nat → mi_C) {l1 : Nat} {l2 : Int32} {l3 : Int32} {l4 : Int64} {o5 : Option Value} {o6 : Option Value} {s7 : Nat} (h8 : mi_W d 142 0 (mi_en 6 [.long l4, .long 0, .long 2305843009213693952]) [] (n, sl, f) (mi_Kc d 186 35 [some (.ref l1), some (.int l2), some (.int l3), some (.long l4), none, o5, o6] [.ref s7] Q)) : mi_W (d + 1) 186 30 [some (.ref l1), some (.int l2), some (.int l3), some (.long l4), none, o5, o6] [.ref s7] (n, sl, f) Q := by
  refine w_lload_n cd_186_30 rfl ?_
  refine w_lconst (lv := 0) cd_186_31 (by decide) ?_
  refine w_ldc2_w (lv := 2305843009213693952) cd_186_32 (by decide +kernel) ?_
  exact w_invokestatic cd_186_35 (show mt_m 12 268 = some (142, 4) by decide +kernel) (by decide) (rest := [.ref s7]) rfl (as := [.long l4, .long 0, .long 2305843009213693952]) rfl ⟨Nat.le_of_ble_eq_true rfl, Nat.le_of_ble_eq_true rfl, Nat.le_of_ble_eq_true rfl⟩ h8
theorem b_186_38 {d : Nat} {Q : (Option Value ⊕ Nat) → mi_H → Prop} (n sl : Nat) (f : Nat → mi_C) {l1 : Nat} {l2 : Int32} {l3 : Int32} {l4 : Int64} {o5 : Option Value} {o6 : Option Value} {s7 : Int32} {s8 : Nat} (h9 : ¬ s7 = (0 : Int32) → mi_W d 186 45 [some (.ref l1), some (.int l2), some (.int l3), some (.long l4), none, o5, o6] [.ref s8] (n, sl, f) Q) (h10 : ¬ (¬ s7 = (0 : Int32)) → mi_W d 186 41 [some (.ref l1), some (.int l2), some (.int l3), some (.long l4), none, o5, o6] [.ref s8] (n, sl, f) Q) : mi_W d 186 38 [some (.ref l1), some (.int l2), some (.int l3), some (.long l4), none, o5, o6] [.int s7, .ref s8] (n, sl, f) Q := by
  exact w_ifne cd_186_38 (by decide) h9 h10
theorem b_186_41 {d : Nat} {Q : (Option Value ⊕ Nat) → mi_H → Prop} (n sl : Nat) (f : Nat → mi_C) {l1 : Nat} {l2 : Int32} {l3 : Int32} {l4 : Int64} {o5 : Option Value} {o6 : Option Value} {s7 : Nat} (h8 : mi_W d 186 46 [some (.ref l1), some (.int l2), some (.int l3), some (.long l4), none, o5, o6] [.int 1, .ref s7] (n, sl, f) Q) : mi_W d 186 41 [some (.ref l1), some (.int l2), some (.int l3), some (.long l4), none, o5, o6] [.ref s7] (n, sl, f) Q := by
  refine w_iconst (v := 1) cd_186_41 (by decide) ?_
  exact w_goto cd_186_42 (by decide) h8
theorem b_186_45 {d : Nat} {Q : (Option Value ⊕ Nat) → mi_H → Prop} (n sl : Nat) (f : Nat → mi_C) {l1 : Nat} {l2 : Int32} {l3 : Int32} {l4 : Int64} {o5 : Option Value} {o6 : Option Value} {s7 : Nat} (h8 : mi_W d 186 46 [some (.ref l1), some (.int l2), some (.int l3), some (.long l4), none, o5, o6] [.int 0, .ref s7] (n, sl, f) Q) : mi_W d 186 45 [some (.ref l1), some (.int l2), some (.int l3), some (.long l4), none, o5, o6] [.ref s7] (n, sl, f) Q := by
  refine w_iconst (v := 0) cd_186_45 (by decide) ?_
  exact h8
theorem b_186_46 {d : Nat} {Q : (Option Value ⊕ Nat) → mi_H → Prop} (n sl : Nat) (f : Nat → mi_C) {l1 : Nat} {l2 : Int32} {l3 : Int32} {l4 : Int64} {o5 : Option Value} {o6 : Option Value} {s7 : Int32} {s8 : Nat} {fs9 : List Value} (h10 : f s8 = .inr (12, fs9)) (h11 : s8 < n) (h12 : mi_W d 140 0 (mi_en 3 [.ref s8, .int s7, .int 1]) [] (n, sl, f) (mi_Kc d 186 47 [some (.ref l1), some (.int l2), some (.int l3), some (.long l4), none, o5, o6] [] Q)) : mi_W (d + 1) 186 46 [some (.ref l1), some (.int l2), some (.int l3), some (.long l4), none, o5, o6] [.int s7, .ref s8] (n, sl, f) Q := by
  refine w_iconst (v := 1) cd_186_46 (by decide) ?_
  exact w_invokevirtual cd_186_47 (show mt_m 12 254 = some (140, 0) by decide +kernel) (rest := []) rfl (as := [.ref s8, .int s7, .int 1]) rfl h10 (Or.inl h11) ⟨Nat.le_of_ble_eq_true rfl, Nat.le_of_ble_eq_true rfl, Nat.le_of_ble_eq_true rfl⟩ h12
theorem b_186_50 {d : Nat} {Q : (Option Value ⊕ Nat) → mi_H → Prop} (n sl : Nat) (f : Nat → mi_C) {l1 : Nat} {l2 : Int32} {l3 : Int32} {l4 : Int64} {o5 : Option Value} {o6 : Option Value} {s7 : Int32} (h8 : s7 = (0 : Int32) → mi_W d 186 55 [some (.ref l1), some (.int l2), some (.int l3), some (.long l4), none, o5, o6] [] (n, sl, f) Q) (h9 : ¬ (s7 = (0 : Int32)) → mi_W d 186 53 [some (.ref l1), some (.int l2), some (.int l3), some (.long l4), none, o5, o6] [] (n, sl, f) Q) : mi_W d 186 50 [some (.ref l1), some (.int l2), some (.int l3), some (.long l4), none, o5, o6] [.int s7] (n, sl, f) Q := by
  exact w_ifeq cd_186_50 (by decide) h8 h9
theorem b_186_53 {d : Nat} {Q : (Option Value ⊕ Nat) → mi_H → Prop} (n sl : Nat) (f : Nat → mi_C) {l1 : Nat} {l2 : Int32} {l3 : Int32} {l4 : Int64} {o5 : Option Value} {o6 : Option Value} (h7 : Q (.inl (some (.long 0))) (n, sl, f)) : mi_W d 186 53 [some (.ref l1), some (.int l2), some (.int l3), some (.long l4), none, o5, o6] [] (n, sl, f) Q := by
  refine w_lconst (lv := 0) cd_186_53 (by decide) ?_
  exact w_lreturn cd_186_54 (by decide +kernel) h7
theorem b_186_55 {d : Nat} {Q : (Option Value ⊕ Nat) → mi_H → Prop} (n sl : Nat) (f : Nat → mi_C) {l1 : Nat} {l2 : Int32} {l3 : Int32} {l4 : Int64} {o5 : Option Value} {o6 : Option Value} {fs7 : List Value} {x10 : Nat} (m12 i12 : Nat) (g12 : Nat → Int64) {fs16 : List Value} {x19 : Nat} (m21 i21 : Nat) (g21 : Nat → Int64) (h8 : f l1 = .inr (12, fs7)) (h9 : l1 < n) (h11 : fs7[56]? = some (.ref x10)) (h13 : f x10 = .inl (3, m12, .inr (.inl g12))) (h14 : x10 < n) (h15 : mi_ix ((4 * l2) + l3) m12 i12) (h17 : f l1 = .inr (12, fs16)) (h18 : l1 < n) (h20 : fs16[56]? = some (.ref x19)) (h22 : f x19 = .inl (3, m21, .inr (.inl g21))) (h23 : x19 < n) (h24 : mi_ix ((4 * l2) + l3) m21 i21) (h25 : Q (.inl (some (.long (g12 i12)))) (n, sl, (va_up f x19 (.inl (3, m21, .inr (.inl (vp_updL g21 i21 l4))))))) : mi_W d 186 55 [some (.ref l1), some (.int l2), some (.int l3), some (.long l4), none, o5, o6] [] (n, sl, f) Q := by
  refine w_aload_n cd_186_55 rfl ?_
  refine w_getfield cd_186_56 (show mt_f 12 175 = some (12, 56) by decide +kernel) h8 h9 h11 ?_
  refine w_iconst (v := 4) cd_186_59 (by decide) ?_
  refine w_iload_n cd_186_60 rfl ?_
  refine w_imul cd_186_61 ?_
  refine w_iload_n cd_186_62 rfl ?_
  refine w_iadd cd_186_63 ?_
  refine w_laload cd_186_64 h13 h14 h15 ?_
  refine w_lstore (ls' := [some (.ref l1), some (.int l2), some (.int l3), some (.long l4), none, some (.long (g12 i12)), none]) cd_186_65 (Nat.le_of_ble_eq_true rfl) rfl ?_
  refine w_aload_n cd_186_67 rfl ?_
  refine w_getfield cd_186_68 (show mt_f 12 175 = some (12, 56) by decide +kernel) h17 h18 h20 ?_
  refine w_iconst (v := 4) cd_186_71 (by decide) ?_
  refine w_iload_n cd_186_72 rfl ?_
  refine w_imul cd_186_73 ?_
  refine w_iload_n cd_186_74 rfl ?_
  refine w_iadd cd_186_75 ?_
  refine w_lload_n cd_186_76 rfl ?_
  refine w_lastore cd_186_77 h22 h23 h24 ?_
  refine w_lload cd_186_78 rfl ?_
  exact w_lreturn cd_186_80 (by decide +kernel) h25
/-! MarloweHostModel.deposit(IIIJ)I -/
set_option maxRecDepth 100000 in
theorem mq_187 : mt_q 187 = my_187 := rfl
set_option maxRecDepth 100000 in
theorem ci_187 : mt_inc 0 my_187.cd = true := by decide +kernel
theorem cd_187_0 : mt_cd 187 0 = some (.aload_n 0) := mt_cd_of (q := (0, .aload_n 0, 1)) mq_187 ci_187 (List.mem_of_getElem? (i := 0) rfl)
theorem cd_187_1 : mt_cd 187 1 = some (.iconst 0) := mt_cd_of (q := (1, .iconst 0, 1)) mq_187 ci_187 (List.mem_of_getElem? (i := 1) rfl)
theorem cd_187_2 : mt_cd 187 2 = some (.putfield 248) := mt_cd_of (q := (2, .putfield 248, 3)) mq_187 ci_187 (List.mem_of_getElem? (i := 2) rfl)
theorem cd_187_5 : mt_cd 187 5 = some (.aload_n 0) := mt_cd_of (q := (5, .aload_n 0, 1)) mq_187 ci_187 (List.mem_of_getElem? (i := 3) rfl)
theorem cd_187_6 : mt_cd 187 6 = some (.iload_n 1) := mt_cd_of (q := (6, .iload_n 1, 1)) mq_187 ci_187 (List.mem_of_getElem? (i := 4) rfl)
theorem cd_187_7 : mt_cd 187 7 = some (.i2l) := mt_cd_of (q := (7, .i2l, 1)) mq_187 ci_187 (List.mem_of_getElem? (i := 5) rfl)
theorem cd_187_8 : mt_cd 187 8 = some (.lconst 0) := mt_cd_of (q := (8, .lconst 0, 1)) mq_187 ci_187 (List.mem_of_getElem? (i := 6) rfl)
theorem cd_187_9 : mt_cd 187 9 = some (.ldc2_w 542) := mt_cd_of (q := (9, .ldc2_w 542, 3)) mq_187 ci_187 (List.mem_of_getElem? (i := 7) rfl)
theorem cd_187_12 : mt_cd 187 12 = some (.invokestatic 268) := mt_cd_of (q := (12, .invokestatic 268, 3)) mq_187 ci_187 (List.mem_of_getElem? (i := 8) rfl)
theorem cd_187_15 : mt_cd 187 15 = some (.ifCond .eq 27) := mt_cd_of (q := (15, .ifCond .eq 27, 3)) mq_187 ci_187 (List.mem_of_getElem? (i := 9) rfl)
theorem cd_187_18 : mt_cd 187 18 = some (.iload_n 2) := mt_cd_of (q := (18, .iload_n 2, 1)) mq_187 ci_187 (List.mem_of_getElem? (i := 10) rfl)
theorem cd_187_19 : mt_cd 187 19 = some (.i2l) := mt_cd_of (q := (19, .i2l, 1)) mq_187 ci_187 (List.mem_of_getElem? (i := 11) rfl)
theorem cd_187_20 : mt_cd 187 20 = some (.lconst 0) := mt_cd_of (q := (20, .lconst 0, 1)) mq_187 ci_187 (List.mem_of_getElem? (i := 12) rfl)
theorem cd_187_21 : mt_cd 187 21 = some (.ldc2_w 542) := mt_cd_of (q := (21, .ldc2_w 542, 3)) mq_187 ci_187 (List.mem_of_getElem? (i := 13) rfl)
theorem cd_187_24 : mt_cd 187 24 = some (.invokestatic 268) := mt_cd_of (q := (24, .invokestatic 268, 3)) mq_187 ci_187 (List.mem_of_getElem? (i := 14) rfl)
theorem cd_187_27 : mt_cd 187 27 = some (.ifCond .eq 15) := mt_cd_of (q := (27, .ifCond .eq 15, 3)) mq_187 ci_187 (List.mem_of_getElem? (i := 15) rfl)
theorem cd_187_30 : mt_cd 187 30 = some (.iload_n 3) := mt_cd_of (q := (30, .iload_n 3, 1)) mq_187 ci_187 (List.mem_of_getElem? (i := 16) rfl)
theorem cd_187_31 : mt_cd 187 31 = some (.i2l) := mt_cd_of (q := (31, .i2l, 1)) mq_187 ci_187 (List.mem_of_getElem? (i := 17) rfl)
theorem cd_187_32 : mt_cd 187 32 = some (.lconst 0) := mt_cd_of (q := (32, .lconst 0, 1)) mq_187 ci_187 (List.mem_of_getElem? (i := 18) rfl)
theorem cd_187_33 : mt_cd 187 33 = some (.ldc2_w 544) := mt_cd_of (q := (33, .ldc2_w 544, 3)) mq_187 ci_187 (List.mem_of_getElem? (i := 19) rfl)
theorem cd_187_36 : mt_cd 187 36 = some (.invokestatic 268) := mt_cd_of (q := (36, .invokestatic 268, 3)) mq_187 ci_187 (List.mem_of_getElem? (i := 20) rfl)
theorem cd_187_39 : mt_cd 187 39 = some (.ifCond .ne 7) := mt_cd_of (q := (39, .ifCond .ne 7, 3)) mq_187 ci_187 (List.mem_of_getElem? (i := 21) rfl)
theorem cd_187_42 : mt_cd 187 42 = some (.iconst 1) := mt_cd_of (q := (42, .iconst 1, 1)) mq_187 ci_187 (List.mem_of_getElem? (i := 22) rfl)
theorem cd_187_43 : mt_cd 187 43 = some (.goto 4) := mt_cd_of (q := (43, .goto 4, 3)) mq_187 ci_187 (List.mem_of_getElem? (i := 23) rfl)
theorem cd_187_46 : mt_cd 187 46 = some (.iconst 0) := mt_cd_of (q := (46, .iconst 0, 1)) mq_187 ci_187 (List.mem_of_getElem? (i := 24) rfl)
theorem cd_187_47 : mt_cd 187 47 = some (.iconst 1) := mt_cd_of (q := (47, .iconst 1, 1)) mq_187 ci_187 (List.mem_of_getElem? (i := 25) rfl)
theorem cd_187_48 : mt_cd 187 48 = some (.invokevirtual 254) := mt_cd_of (q := (48, .invokevirtual 254, 3)) mq_187 ci_187 (List.mem_of_getElem? (i := 26) rfl)
theorem cd_187_51 : mt_cd 187 51 = some (.ifCond .ne 25) := mt_cd_of (q := (51, .ifCond .ne 25, 3)) mq_187 ci_187 (List.mem_of_getElem? (i := 27) rfl)
theorem cd_187_54 : mt_cd 187 54 = some (.aload_n 0) := mt_cd_of (q := (54, .aload_n 0, 1)) mq_187 ci_187 (List.mem_of_getElem? (i := 28) rfl)
theorem cd_187_55 : mt_cd 187 55 = some (.aload_n 0) := mt_cd_of (q := (55, .aload_n 0, 1)) mq_187 ci_187 (List.mem_of_getElem? (i := 29) rfl)
theorem cd_187_56 : mt_cd 187 56 = some (.getfield 258) := mt_cd_of (q := (56, .getfield 258, 3)) mq_187 ci_187 (List.mem_of_getElem? (i := 30) rfl)
theorem cd_187_59 : mt_cd 187 59 = some (.bipush 16) := mt_cd_of (q := (59, .bipush 16, 2)) mq_187 ci_187 (List.mem_of_getElem? (i := 31) rfl)
theorem cd_187_61 : mt_cd 187 61 = some (.if_icmp .ne 7) := mt_cd_of (q := (61, .if_icmp .ne 7, 3)) mq_187 ci_187 (List.mem_of_getElem? (i := 32) rfl)
theorem cd_187_64 : mt_cd 187 64 = some (.iconst 1) := mt_cd_of (q := (64, .iconst 1, 1)) mq_187 ci_187 (List.mem_of_getElem? (i := 33) rfl)
theorem cd_187_65 : mt_cd 187 65 = some (.goto 4) := mt_cd_of (q := (65, .goto 4, 3)) mq_187 ci_187 (List.mem_of_getElem? (i := 34) rfl)
theorem cd_187_68 : mt_cd 187 68 = some (.iconst 0) := mt_cd_of (q := (68, .iconst 0, 1)) mq_187 ci_187 (List.mem_of_getElem? (i := 35) rfl)
theorem cd_187_69 : mt_cd 187 69 = some (.iconst 2) := mt_cd_of (q := (69, .iconst 2, 1)) mq_187 ci_187 (List.mem_of_getElem? (i := 36) rfl)
theorem cd_187_70 : mt_cd 187 70 = some (.invokevirtual 254) := mt_cd_of (q := (70, .invokevirtual 254, 3)) mq_187 ci_187 (List.mem_of_getElem? (i := 37) rfl)
theorem cd_187_73 : mt_cd 187 73 = some (.ifCond .eq 5) := mt_cd_of (q := (73, .ifCond .eq 5, 3)) mq_187 ci_187 (List.mem_of_getElem? (i := 38) rfl)
theorem cd_187_76 : mt_cd 187 76 = some (.iconst 0) := mt_cd_of (q := (76, .iconst 0, 1)) mq_187 ci_187 (List.mem_of_getElem? (i := 39) rfl)
theorem cd_187_77 : mt_cd 187 77 = some (.ireturn) := mt_cd_of (q := (77, .ireturn, 1)) mq_187 ci_187 (List.mem_of_getElem? (i := 40) rfl)
theorem cd_187_78 : mt_cd 187 78 = some (.aload_n 0) := mt_cd_of (q := (78, .aload_n 0, 1)) mq_187 ci_187 (List.mem_of_getElem? (i := 41) rfl)
theorem cd_187_79 : mt_cd 187 79 = some (.bipush 7) := mt_cd_of (q := (79, .bipush 7, 2)) mq_187 ci_187 (List.mem_of_getElem? (i := 42) rfl)
theorem cd_187_81 : mt_cd 187 81 = some (.iload_n 1) := mt_cd_of (q := (81, .iload_n 1, 1)) mq_187 ci_187 (List.mem_of_getElem? (i := 43) rfl)
theorem cd_187_82 : mt_cd 187 82 = some (.iload_n 2) := mt_cd_of (q := (82, .iload_n 2, 1)) mq_187 ci_187 (List.mem_of_getElem? (i := 44) rfl)
theorem cd_187_83 : mt_cd 187 83 = some (.iload_n 3) := mt_cd_of (q := (83, .iload_n 3, 1)) mq_187 ci_187 (List.mem_of_getElem? (i := 45) rfl)
theorem cd_187_84 : mt_cd 187 84 = some (.lload 4) := mt_cd_of (q := (84, .lload 4, 2)) mq_187 ci_187 (List.mem_of_getElem? (i := 46) rfl)
theorem cd_187_86 : mt_cd 187 86 = some (.invokevirtual 548) := mt_cd_of (q := (86, .invokevirtual 548, 3)) mq_187 ci_187 (List.mem_of_getElem? (i := 47) rfl)
theorem cd_187_89 : mt_cd 187 89 = some (.ireturn) := mt_cd_of (q := (89, .ireturn, 1)) mq_187 ci_187 (List.mem_of_getElem? (i := 48) rfl)
theorem b_187_0 {d : Nat} {Q : (Option Value ⊕ Nat) → mi_H → Prop} (n sl : Nat) (f : Nat → mi_C) {l1 : Nat} {l2 : Int32} {l3 : Int32} {l4 : Int32} {l5 : Int64} {fs6 : List Value} (h7 : f l1 = .inr (12, fs6)) (h8 : l1 < n) (h9 : 0 < fs6.length) (h10 : mi_W d 142 0 (mi_en 6 [.long ((l2 : Int32).toInt64), .long 0, .long 7]) [] (n, sl, (va_up f l1 (.inr (12, fs6.set 0 (.int 0))))) (mi_Kc d 187 12 [some (.ref l1), some (.int l2), some (.int l3), some (.int l4), some (.long l5), none] [.ref l1] Q)) : mi_W (d + 1) 187 0 [some (.ref l1), some (.int l2), some (.int l3), some (.int l4), some (.long l5), none] [] (n, sl, f) Q := by
  refine w_aload_n cd_187_0 rfl ?_
  refine w_iconst (v := 0) cd_187_1 (by decide) ?_
  refine w_putfield (w := .int 0) cd_187_2 (show mt_f 12 248 = some (12, 0) by decide +kernel) h7 h8 ⟨h9, rfl, Or.inl (by decide)⟩ ?_
  refine w_aload_n cd_187_5 rfl ?_
  refine w_iload_n cd_187_6 rfl ?_
  refine w_i2l cd_187_7 ?_
  refine w_lconst (lv := 0) cd_187_8 (by decide) ?_
  refine w_ldc2_w (lv := 7) cd_187_9 (by decide +kernel) ?_
  exact w_invokestatic cd_187_12 (show mt_m 12 268 = some (142, 4) by decide +kernel) (by decide) (rest := [.ref l1]) rfl (as := [.long ((l2 : Int32).toInt64), .long 0, .long 7]) rfl ⟨Nat.le_of_ble_eq_true rfl, Nat.le_of_ble_eq_true rfl, Nat.le_of_ble_eq_true rfl⟩ h10
theorem b_187_15 {d : Nat} {Q : (Option Value ⊕ Nat) → mi_H → Prop} (n sl : Nat) (f : Nat → mi_C) {l1 : Nat} {l2 : Int32} {l3 : Int32} {l4 : Int32} {l5 : Int64} {s6 : Int32} {s7 : Nat} (h8 : s6 = (0 : Int32) → mi_W d 187 42 [some (.ref l1), some (.int l2), some (.int l3), some (.int l4), some (.long l5), none] [.ref s7] (n, sl, f) Q) (h9 : ¬ (s6 = (0 : Int32)) → mi_W d 187 18 [some (.ref l1), some (.int l2), some (.int l3), some (.int l4), some (.long l5), none] [.ref s7] (n, sl, f) Q) : mi_W d 187 15 [some (.ref l1), some (.int l2), some (.int l3), some (.int l4), some (.long l5), none] [.int s6, .ref s7] (n, sl, f) Q := by
  exact w_ifeq cd_187_15 (by decide) h8 h9
theorem b_187_18 {d : Nat} {Q : (Option Value ⊕ Nat) → mi_H → Prop} (n sl : Nat) (f : Nat → mi_C) {l1 : Nat} {l2 : Int32} {l3 : Int32} {l4 : Int32} {l5 : Int64} {s6 : Nat} (h7 : mi_W d 142 0 (mi_en 6 [.long ((l3 : Int32).toInt64), .long 0, .long 7]) [] (n, sl, f) (mi_Kc d 187 24 [some (.ref l1), some (.int l2), some (.int l3), some (.int l4), some (.long l5), none] [.ref s6] Q)) : mi_W (d + 1) 187 18 [some (.ref l1), some (.int l2), some (.int l3), some (.int l4), some (.long l5), none] [.ref s6] (n, sl, f) Q := by
  refine w_iload_n cd_187_18 rfl ?_
  refine w_i2l cd_187_19 ?_
  refine w_lconst (lv := 0) cd_187_20 (by decide) ?_
  refine w_ldc2_w (lv := 7) cd_187_21 (by decide +kernel) ?_
  exact w_invokestatic cd_187_24 (show mt_m 12 268 = some (142, 4) by decide +kernel) (by decide) (rest := [.ref s6]) rfl (as := [.long ((l3 : Int32).toInt64), .long 0, .long 7]) rfl ⟨Nat.le_of_ble_eq_true rfl, Nat.le_of_ble_eq_true rfl, Nat.le_of_ble_eq_true rfl⟩ h7
theorem b_187_27 {d : Nat} {Q : (Option Value ⊕ Nat) → mi_H → Prop} (n sl : Nat) (f : Nat → mi_C) {l1 : Nat} {l2 : Int32} {l3 : Int32} {l4 : Int32} {l5 : Int64} {s6 : Int32} {s7 : Nat} (h8 : s6 = (0 : Int32) → mi_W d 187 42 [some (.ref l1), some (.int l2), some (.int l3), some (.int l4), some (.long l5), none] [.ref s7] (n, sl, f) Q) (h9 : ¬ (s6 = (0 : Int32)) → mi_W d 187 30 [some (.ref l1), some (.int l2), some (.int l3), some (.int l4), some (.long l5), none] [.ref s7] (n, sl, f) Q) : mi_W d 187 27 [some (.ref l1), some (.int l2), some (.int l3), some (.int l4), some (.long l5), none] [.int s6, .ref s7] (n, sl, f) Q := by
  exact w_ifeq cd_187_27 (by decide) h8 h9
theorem b_187_30 {d : Nat} {Q : (Option Value ⊕ Nat) → mi_H → Prop} (n sl : Nat) (f : Nat → mi_C) {l1 : Nat} {l2 : Int32} {l3 : Int32} {l4 : Int32} {l5 : Int64} {s6 : Nat} (h7 : mi_W d 142 0 (mi_en 6 [.long ((l4 : Int32).toInt64), .long 0, .long 3]) [] (n, sl, f) (mi_Kc d 187 36 [some (.ref l1), some (.int l2), some (.int l3), some (.int l4), some (.long l5), none] [.ref s6] Q)) : mi_W (d + 1) 187 30 [some (.ref l1), some (.int l2), some (.int l3), some (.int l4), some (.long l5), none] [.ref s6] (n, sl, f) Q := by
  refine w_iload_n cd_187_30 rfl ?_
  refine w_i2l cd_187_31 ?_
  refine w_lconst (lv := 0) cd_187_32 (by decide) ?_
  refine w_ldc2_w (lv := 3) cd_187_33 (by decide +kernel) ?_
  exact w_invokestatic cd_187_36 (show mt_m 12 268 = some (142, 4) by decide +kernel) (by decide) (rest := [.ref s6]) rfl (as := [.long ((l4 : Int32).toInt64), .long 0, .long 3]) rfl ⟨Nat.le_of_ble_eq_true rfl, Nat.le_of_ble_eq_true rfl, Nat.le_of_ble_eq_true rfl⟩ h7
theorem b_187_39 {d : Nat} {Q : (Option Value ⊕ Nat) → mi_H → Prop} (n sl : Nat) (f : Nat → mi_C) {l1 : Nat} {l2 : Int32} {l3 : Int32} {l4 : Int32} {l5 : Int64} {s6 : Int32} {s7 : Nat} (h8 : ¬ s6 = (0 : Int32) → mi_W d 187 46 [some (.ref l1), some (.int l2), some (.int l3), some (.int l4), some (.long l5), none] [.ref s7] (n, sl, f) Q) (h9 : ¬ (¬ s6 = (0 : Int32)) → mi_W d 187 42 [some (.ref l1), some (.int l2), some (.int l3), some (.int l4), some (.long l5), none] [.ref s7] (n, sl, f) Q) : mi_W d 187 39 [some (.ref l1), some (.int l2), some (.int l3), some (.int l4), some (.long l5), none] [.int s6, .ref s7] (n, sl, f) Q := by
  exact w_ifne cd_187_39 (by decide) h8 h9
theorem b_187_42 {d : Nat} {Q : (Option Value ⊕ Nat) → mi_H → Prop} (n sl : Nat) (f : Nat → mi_C) {l1 : Nat} {l2 : Int32} {l3 : Int32} {l4 : Int32} {l5 : Int64} {s6 : Nat} (h7 : mi_W d 187 47 [some (.ref l1), some (.int l2), some (.int l3), some (.int l4), some (.long l5), none] [.int 1, .ref s6] (n, sl, f) Q) : mi_W d 187 42 [some (.ref l1), some (.int l2), some (.int l3), some (.int l4), some (.long l5), none] [.ref s6] (n, sl, f) Q := by
  refine w_iconst (v := 1) cd_187_42 (by decide) ?_
  exact w_goto cd_187_43 (by decide) h7
theorem b_187_46 {d : Nat} {Q : (Option Value ⊕ Nat) → mi_H → Prop} (n sl : Nat) (f : Nat → mi_C) {l1 : Nat} {l2 : Int32} {l3 : Int32} {l4 : Int32} {l5 : Int64} {s6 : Nat} (h7 : mi_W d 187 47 [some (.ref l1), some (.int l2), some (.int l3), some (.int l4), some (.long l5), none] [.int 0, .ref s6] (n, sl, f) Q) : mi_W d 187 46 [some (.ref l1), some (.int l2), some (.int l3), some (.int l4), some (.long l5), none] [.ref s6] (n, sl, f) Q := by
  refine w_iconst (v := 0) cd_187_46 (by decide) ?_
  exact h7
theorem b_187_47 {d : Nat} {Q : (Option Value ⊕ Nat) → mi_H → Prop} (n sl : Nat) (f : Nat → mi_C) {l1 : Nat} {l2 : Int32} {l3 : Int32} {l4 : Int32} {l5 : Int64} {s6 : Int32} {s7 : Nat} {fs8 : List Value} (h9 : f s7 = .inr (12, fs8)) (h10 : s7 < n) (h11 : mi_W d 140 0 (mi_en 3 [.ref s7, .int s6, .int 1]) [] (n, sl, f) (mi_Kc d 187 48 [some (.ref l1), some (.int l2), some (.int l3), some (.int l4), some (.long l5), none] [] Q)) : mi_W (d + 1) 187 47 [some (.ref l1), some (.int l2), some (.int l3), some (.int l4), some (.long l5), none] [.int s6, .ref s7] (n, sl, f) Q := by
  refine w_iconst (v := 1) cd_187_47 (by decide) ?_
  exact w_invokevirtual cd_187_48 (show mt_m 12 254 = some (140, 0) by decide +kernel) (rest := []) rfl (as := [.ref s7, .int s6, .int 1]) rfl h9 (Or.inl h10) ⟨Nat.le_of_ble_eq_true rfl, Nat.le_of_ble_eq_true rfl, Nat.le_of_ble_eq_true rfl⟩ h11
theorem b_187_51 {d : Nat} {Q : (Option Value ⊕ Nat) → mi_H → Prop} (n sl : Nat) (f : Nat → mi_C) {l1 : Nat} {l2 : Int32} {l3 : Int32} {l4 : Int32} {l5 : Int64} {s6 : Int32} (h7 : ¬ s6 = (0 : Int32) → mi_W d 187 76 [some (.ref l1), some (.int l2), some (.int l3), some (.int l4), some (.long l5), none] [] (n, sl, f) Q) (h8 : ¬ (¬ s6 = (0 : Int32)) → mi_W d 187 54 [some (.ref l1), some (.int l2), some (.int l3), some (.int l4), some (.long l5), none] [] (n, sl, f) Q) : mi_W d 187 51 [some (.ref l1), some (.int l2), some (.int l3), some (.int l4), some (.long l5), none] [.int s6] (n, sl, f) Q := by
  exact w_ifne cd_187_51 (by decide) h7 h8
theorem b_187_54 {d : Nat} {Q : (Option Value ⊕ Nat) → mi_H → Prop} (n sl : Nat) (f : Nat → mi_C) {l1 : Nat} {l2 : Int32} {l3 : Int32} {l4 : Int32} {l5 : Int64} {fs6 : List Value} {x9 : Int32} (h7 : f l1 = .inr (12, fs6)) (h8 : l1 < n) (h10 : fs6[59]? = some (.int x9)) (h11 : ¬ x9 = 16 → mi_W d 187 68 [some (.ref l1), some (.int l2), some (.int l3), some (.int l4), some (.long l5), none] [.ref l1] (n, sl, f) Q) (h12 : ¬ (¬ x9 = 16) → mi_W d 187 64 [some (.ref l1), some (.int l2), some (.int l3), some (.int l4), some (.long l5), none] [.ref l1] (n, sl, f) Q) : mi_W d 187 54 [some (.ref l1), some (.int l2), some (.int l3), some (.int l4), some (.long l5), none] [] (n, sl, f) Q := by
  refine w_aload_n cd_187_54 rfl ?_
  refine w_aload_n cd_187_55 rfl ?_
  refine w_getfield cd_187_56 (show mt_f 12 258 = some (12, 59) by decide +kernel) h7 h8 h10 ?_
  refine w_bipush (v := 16) cd_187_59 (by decide) ?_
  exact w_if_icmpne cd_187_61 (by decide) h11 h12
theorem b_187_64 {d : Nat} {Q : (Option Value ⊕ Nat) → mi_H → Prop} (n sl : Nat) (f : Nat → mi_C) {l1 : Nat} {l2 : Int32} {l3 : Int32} {l4 : Int32} {l5 : Int64} {s6 : Nat} (h7 : mi_W d 187 69 [some (.ref l1), some (.int l2), some (.int l3), some (.int l4), some (.long l5), none] [.int 1, .ref s6] (n, sl, f) Q) : mi_W d 187 64 [some (.ref l1), some (.int l2), some (.int l3), some (.int l4), some (.long l5), none] [.ref s6] (n, sl, f) Q := by
  refine w_iconst (v := 1) cd_187_64 (by decide) ?_
  exact w_goto cd_187_65 (by decide) h7
theorem b_187_68 {d : Nat} {Q : (Option Value ⊕ Nat) → mi_H → Prop} (n sl : Nat) (f : Nat → mi_C) {l1 : Nat} {l2 : Int32} {l3 : Int32} {l4 : Int32} {l5 : Int64} {s6 : Nat} (h7 : mi_W d 187 69 [some (.ref l1), some (.int l2), some (.int l3), some (.int l4), some (.long l5), none] [.int 0, .ref s6] (n, sl, f) Q) : mi_W d 187 68 [some (.ref l1), some (.int l2), some (.int l3), some (.int l4), some (.long l5), none] [.ref s6] (n, sl, f) Q := by
  refine w_iconst (v := 0) cd_187_68 (by decide) ?_
  exact h7
theorem b_187_69 {d : Nat} {Q : (Option Value ⊕ Nat) → mi_H → Prop} (n sl : Nat) (f : Nat → mi_C) {l1 : Nat} {l2 : Int32} {l3 : Int32} {l4 : Int32} {l5 : Int64} {s6 : Int32} {s7 : Nat} {fs8 : List Value} (h9 : f s7 = .inr (12, fs8)) (h10 : s7 < n) (h11 : mi_W d 140 0 (mi_en 3 [.ref s7, .int s6, .int 2]) [] (n, sl, f) (mi_Kc d 187 70 [some (.ref l1), some (.int l2), some (.int l3), some (.int l4), some (.long l5), none] [] Q)) : mi_W (d + 1) 187 69 [some (.ref l1), some (.int l2), some (.int l3), some (.int l4), some (.long l5), none] [.int s6, .ref s7] (n, sl, f) Q := by
  refine w_iconst (v := 2) cd_187_69 (by decide) ?_
  exact w_invokevirtual cd_187_70 (show mt_m 12 254 = some (140, 0) by decide +kernel) (rest := []) rfl (as := [.ref s7, .int s6, .int 2]) rfl h9 (Or.inl h10) ⟨Nat.le_of_ble_eq_true rfl, Nat.le_of_ble_eq_true rfl, Nat.le_of_ble_eq_true rfl⟩ h11
theorem b_187_73 {d : Nat} {Q : (Option Value ⊕ Nat) → mi_H → Prop} (n sl : Nat) (f : Nat → mi_C) {l1 : Nat} {l2 : Int32} {l3 : Int32} {l4 : Int32} {l5 : Int64} {s6 : Int32} (h7 : s6 = (0 : Int32) → mi_W d 187 78 [some (.ref l1), some (.int l2), some (.int l3), some (.int l4), some (.long l5), none] [] (n, sl, f) Q) (h8 : ¬ (s6 = (0 : Int32)) → mi_W d 187 76 [some (.ref l1), some (.int l2), some (.int l3), some (.int l4), some (.long l5), none] [] (n, sl, f) Q) : mi_W d 187 73 [some (.ref l1), some (.int l2), some (.int l3), some (.int l4), some (.long l5), none] [.int s6] (n, sl, f) Q := by
  exact w_ifeq cd_187_73 (by decide) h7 h8
theorem b_187_76 {d : Nat} {Q : (Option Value ⊕ Nat) → mi_H → Prop} (n sl : Nat) (f : Nat → mi_C) {l1 : Nat} {l2 : Int32} {l3 : Int32} {l4 : Int32} {l5 : Int64} (h6 : Q (.inl (some (.int 0))) (n, sl, f)) : mi_W d 187 76 [some (.ref l1), some (.int l2), some (.int l3), some (.int l4), some (.long l5), none] [] (n, sl, f) Q := by
  refine w_iconst (v := 0) cd_187_76 (by decide) ?_
  exact w_ireturn_i cd_187_77 (by decide +kernel) h6
theorem b_187_78 {d : Nat} {Q : (Option Value ⊕ Nat) → mi_H → Prop} (n sl : Nat) (f : Nat → mi_C) {l1 : Nat} {l2 : Int32} {l3 : Int32} {l4 : Int32} {l5 : Int64} {fs6 : List Value} (h7 : f l1 = .inr (12, fs6)) (h8 : l1 < n) (h9 : mi_W d 188 0 (mi_en 7 [.ref l1, .int 7, .int l2, .int l3, .int l4, .long l5]) [] (n, sl, f) (mi_Kc d 187 86 [some (.ref l1), some (.int l2), some (.int l3), some (.int l4), some (.long l5), none] [] Q)) : mi_W (d + 1) 187 78 [some (.ref l1), some (.int l2), some (.int l3), some (.int l4), some (.long l5), none] [] (n, sl, f) Q := by
  refine w_aload_n cd_187_78 rfl ?_
  refine w_bipush (v := 7) cd_187_79 (by decide) ?_
  refine w_iload_n cd_187_81 rfl ?_
  refine w_iload_n cd_187_82 rfl ?_
  refine w_iload_n cd_187_83 rfl ?_
  refine w_lload cd_187_84 rfl ?_
  exact w_invokevirtual cd_187_86 (show mt_m 12 548 = some (188, 0) by decide +kernel) (rest := []) rfl (as := [.ref l1, .int 7, .int l2, .int l3, .int l4, .long l5]) rfl h7 (Or.inl h8) ⟨Nat.le_of_ble_eq_true rfl, Nat.le_of_ble_eq_true rfl, Nat.le_of_ble_eq_true rfl⟩ h9
theorem b_187_89 {d : Nat} {Q : (Option Value ⊕ Nat) → mi_H → Prop} (n sl : Nat) (f : Nat → mi_C) {l1 : Nat} {l2 : Int32} {l3 : Int32} {l4 : Int32} {l5 : Int64} {s6 : Int32} (h7 : Q (.inl (some (.int s6))) (n, sl, f)) : mi_W d 187 89 [some (.ref l1), some (.int l2), some (.int l3), some (.int l4), some (.long l5), none] [.int s6] (n, sl, f) Q := by
  exact w_ireturn_i cd_187_89 (by decide +kernel) h7
/-! MarloweHostModel.input(IIIIJ)I -/
set_option maxRecDepth 100000 in
theorem mq_188 : mt_q 188 = my_188 := rfl
set_option maxRecDepth 100000 in
theorem ci_188 : mt_inc 0 my_188.cd = true := by decide +kernel
theorem cd_188_0 : mt_cd 188 0 = some (.aload_n 0) := mt_cd_of (q := (0, .aload_n 0, 1)) mq_188 ci_188 (List.mem_of_getElem? (i := 0) rfl)
theorem cd_188_1 : mt_cd 188 1 = some (.getfield 178) := mt_cd_of (q := (1, .getfield 178, 3)) mq_188 ci_188 (List.mem_of_getElem? (i := 1) rfl)
theorem cd_188_4 : mt_cd 188 4 = some (.aload_n 0) := mt_cd_of (q := (4, .aload_n 0, 1)) mq_188 ci_188 (List.mem_of_getElem? (i := 2) rfl)
theorem cd_188_5 : mt_cd 188 5 = some (.getfield 258) := mt_cd_of (q := (5, .getfield 258, 3)) mq_188 ci_188 (List.mem_of_getElem? (i := 3) rfl)
theorem cd_188_8 : mt_cd 188 8 = some (.iload_n 1) := mt_cd_of (q := (8, .iload_n 1, 1)) mq_188 ci_188 (List.mem_of_getElem? (i := 4) rfl)
theorem cd_188_9 : mt_cd 188 9 = some (.iastore) := mt_cd_of (q := (9, .iastore, 1)) mq_188 ci_188 (List.mem_of_getElem? (i := 5) rfl)
theorem cd_188_10 : mt_cd 188 10 = some (.aload_n 0) := mt_cd_of (q := (10, .aload_n 0, 1)) mq_188 ci_188 (List.mem_of_getElem? (i := 6) rfl)
theorem cd_188_11 : mt_cd 188 11 = some (.getfield 181) := mt_cd_of (q := (11, .getfield 181, 3)) mq_188 ci_188 (List.mem_of_getElem? (i := 7) rfl)
theorem cd_188_14 : mt_cd 188 14 = some (.aload_n 0) := mt_cd_of (q := (14, .aload_n 0, 1)) mq_188 ci_188 (List.mem_of_getElem? (i := 8) rfl)
theorem cd_188_15 : mt_cd 188 15 = some (.getfield 258) := mt_cd_of (q := (15, .getfield 258, 3)) mq_188 ci_188 (List.mem_of_getElem? (i := 9) rfl)
theorem cd_188_18 : mt_cd 188 18 = some (.iload_n 2) := mt_cd_of (q := (18, .iload_n 2, 1)) mq_188 ci_188 (List.mem_of_getElem? (i := 10) rfl)
theorem cd_188_19 : mt_cd 188 19 = some (.iastore) := mt_cd_of (q := (19, .iastore, 1)) mq_188 ci_188 (List.mem_of_getElem? (i := 11) rfl)
theorem cd_188_20 : mt_cd 188 20 = some (.aload_n 0) := mt_cd_of (q := (20, .aload_n 0, 1)) mq_188 ci_188 (List.mem_of_getElem? (i := 12) rfl)
theorem cd_188_21 : mt_cd 188 21 = some (.getfield 184) := mt_cd_of (q := (21, .getfield 184, 3)) mq_188 ci_188 (List.mem_of_getElem? (i := 13) rfl)
theorem cd_188_24 : mt_cd 188 24 = some (.aload_n 0) := mt_cd_of (q := (24, .aload_n 0, 1)) mq_188 ci_188 (List.mem_of_getElem? (i := 14) rfl)
theorem cd_188_25 : mt_cd 188 25 = some (.getfield 258) := mt_cd_of (q := (25, .getfield 258, 3)) mq_188 ci_188 (List.mem_of_getElem? (i := 15) rfl)
theorem cd_188_28 : mt_cd 188 28 = some (.iload_n 3) := mt_cd_of (q := (28, .iload_n 3, 1)) mq_188 ci_188 (List.mem_of_getElem? (i := 16) rfl)
theorem cd_188_29 : mt_cd 188 29 = some (.iastore) := mt_cd_of (q := (29, .iastore, 1)) mq_188 ci_188 (List.mem_of_getElem? (i := 17) rfl)
theorem cd_188_30 : mt_cd 188 30 = some (.aload_n 0) := mt_cd_of (q := (30, .aload_n 0, 1)) mq_188 ci_188 (List.mem_of_getElem? (i := 18) rfl)
theorem cd_188_31 : mt_cd 188 31 = some (.getfield 187) := mt_cd_of (q := (31, .getfield 187, 3)) mq_188 ci_188 (List.mem_of_getElem? (i := 19) rfl)
theorem cd_188_34 : mt_cd 188 34 = some (.aload_n 0) := mt_cd_of (q := (34, .aload_n 0, 1)) mq_188 ci_188 (List.mem_of_getElem? (i := 20) rfl)
theorem cd_188_35 : mt_cd 188 35 = some (.getfield 258) := mt_cd_of (q := (35, .getfield 258, 3)) mq_188 ci_188 (List.mem_of_getElem? (i := 21) rfl)
theorem cd_188_38 : mt_cd 188 38 = some (.iload 4) := mt_cd_of (q := (38, .iload 4, 2)) mq_188 ci_188 (List.mem_of_getElem? (i := 22) rfl)
theorem cd_188_40 : mt_cd 188 40 = some (.iastore) := mt_cd_of (q := (40, .iastore, 1)) mq_188 ci_188 (List.mem_of_getElem? (i := 23) rfl)
theorem cd_188_41 : mt_cd 188 41 = some (.aload_n 0) := mt_cd_of (q := (41, .aload_n 0, 1)) mq_188 ci_188 (List.mem_of_getElem? (i := 24) rfl)
theorem cd_188_42 : mt_cd 188 42 = some (.getfield 190) := mt_cd_of (q := (42, .getfield 190, 3)) mq_188 ci_188 (List.mem_of_getElem? (i := 25) rfl)
theorem cd_188_45 : mt_cd 188 45 = some (.aload_n 0) := mt_cd_of (q := (45, .aload_n 0, 1)) mq_188 ci_188 (List.mem_of_getElem? (i := 26) rfl)
theorem cd_188_46 : mt_cd 188 46 = some (.getfield 258) := mt_cd_of (q := (46, .getfield 258, 3)) mq_188 ci_188 (List.mem_of_getElem? (i := 27) rfl)
theorem cd_188_49 : mt_cd 188 49 = some (.lload 5) := mt_cd_of (q := (49, .lload 5, 2)) mq_188 ci_188 (List.mem_of_getElem? (i := 28) rfl)
theorem cd_188_51 : mt_cd 188 51 = some (.lastore) := mt_cd_of (q := (51, .lastore, 1)) mq_188 ci_188 (List.mem_of_getElem? (i := 29) rfl)
theorem cd_188_52 : mt_cd 188 52 = some (.aload_n 0) := mt_cd_of (q := (52, .aload_n 0, 1)) mq_188 ci_188 (List.mem_of_getElem? (i := 30) rfl)
theorem cd_188_53 : mt_cd 188 53 = some (.dup) := mt_cd_of (q := (53, .dup, 1)) mq_188 ci_188 (List.mem_of_getElem? (i := 31) rfl)
theorem cd_188_54 : mt_cd 188 54 = some (.getfield 258) := mt_cd_of (q := (54, .getfield 258, 3)) mq_188 ci_188 (List.mem_of_getElem? (i := 32) rfl)
theorem cd_188_57 : mt_cd 188 57 = some (.iconst 1) := mt_cd_of (q := (57, .iconst 1, 1)) mq_188 ci_188 (List.mem_of_getElem? (i := 33) rfl)
theorem cd_188_58 : mt_cd 188 58 = some (.iadd) := mt_cd_of (q := (58, .iadd, 1)) mq_188 ci_188 (List.mem_of_getElem? (i := 34) rfl)
theorem cd_188_59 : mt_cd 188 59 = some (.dup_x1) := mt_cd_of (q := (59, .dup_x1, 1)) mq_188 ci_188 (List.mem_of_getElem? (i := 35) rfl)
theorem cd_188_60 : mt_cd 188 60 = some (.putfield 258) := mt_cd_of (q := (60, .putfield 258, 3)) mq_188 ci_188 (List.mem_of_getElem? (i := 36) rfl)
theorem cd_188_63 : mt_cd 188 63 = some (.ireturn) := mt_cd_of (q := (63, .ireturn, 1)) mq_188 ci_188 (List.mem_of_getElem? (i := 37) rfl)
theorem b_188_0 {d : Nat} {Q : (Option Value ⊕ Nat) → mi_H → Prop} (n sl : Nat) (f : Nat → mi_C) {l1 : Nat} {l2 : Int32} {l3 : Int32} {l4 : Int32} {l5 : Int32} {l6 : Int64} {fs7 : List Value} {x10 : Nat} {fs12 : List Value} {x15 : Int32} (m17 i17 : Nat) (g17 : Nat → Int32) {fs21 : List Value} {x24 : Nat} {fs26 : List Value} {x29 : Int32} (m31 i31 : Nat) (g31 : Nat → Int32) {fs35 : List Value} {x38 : Nat} {fs40 : List Value} {x43 : Int32} (m45 i45 : Nat) (g45 : Nat → Int32) {fs49 : List Value} {x52 : Nat} {fs54 : List Value} {x57 : Int32} (m59 i59 : Nat) (g59 : Nat → Int32) {fs63 : List Value} {x66 : Nat} {fs68 : List Value} {x71 : Int32} (m73 i73 : Nat) (g73 : Nat → Int64) {fs77 : List Value} {x80 : Int32} {fs82 : List Value} (h8 : f l1 = .inr (12, fs7)) (h9 : l1 < n) (h11 : fs7[60]? = some (.ref x10)) (h13 : f l1 = .inr (12, fs12)) (h14 : l1 < n) (h16 : fs12[59]? = some (.int x15)) (h18 : f x10 = .inl (0, m17, .inl g17)) (h19 : x10 < n) (h20 : mi_ix x15 m17 i17) (h22 : (va_up f x10 (.inl (0, m17, .inl (upd g17 i17 l2)))) l1 = .inr (12, fs21)) (h23 : l1 < n) (h25 : fs21[61]? = some (.ref x24)) (h27 : (va_up f x10 (.inl (0, m17, .inl (upd g17 i17 l2)))) l1 = .inr (12, fs26)) (h28 : l1 < n) (h30 : fs26[59]? = some (.int x29)) (h32 : (va_up f x10 (.inl (0, m17, .inl (upd g17 i17 l2)))) x24 = .inl (0, m31, .inl g31)) (h33 : x24 < n) (h34 : mi_ix x29 m31 i31) (h36 : (va_up (va_up f x10 (.inl (0, m17, .inl (upd g17 i17 l2)))) x24 (.inl (0, m31, .inl (upd g31 i31 l3)))) l1 = .inr (12, fs35)) (h37 : l1 < n) (h39 : fs35[62]? = some (.ref x38)) (h41 : (va_up (va_up f x10 (.inl (0, m17, .inl (upd g17 i17 l2)))) x24 (.inl (0, m31, .inl (upd g31 i31 l3)))) l1 = .inr (12, fs40)) (h42 : l1 < n) (h44 : fs40[59]? = some (.int x43)) (h46 : (va_up (va_up f x10 (.inl (0, m17, .inl (upd g17 i17 l2)))) x24 (.inl (0, m31, .inl (upd g31 i31 l3)))) x38 = .inl (0, m45, .inl g45)) (h47 : x38 < n) (h48 : mi_ix x43 m45 i45) (h50 : (va_up (va_up (va_up f x10 (.inl (0, m17, .inl (upd g17 i17 l2)))) x24 (.inl (0, m31, .inl (upd g31 i31 l3)))) x38 (.inl (0, m45, .inl (upd g45 i45 l4)))) l1 = .inr (12, fs49)) (h51 : l1 < n) (h53 : fs49[63]? = some (.ref x52)) (h55 : (va_up (va_up (va_up f x10 (.inl (0, m17, .inl (upd g17 i17 l2)))) x24 (.inl (0, m31, .inl (upd g31 i31 l3)))) x38 (.inl (0, m45, .inl (upd g45 i45 l4)))) l1 = .inr (12, fs54)) (h56 : l1 < n) (h58 : fs54[59]? = some (.int x57)) (h60 : (va_up (va_up (va_up f x10 (.inl (0, m17, .inl (upd g17 i17 l2)))) x24 (.inl (0, m31, .inl (upd g31 i31 l3)))) x38 (.inl (0, m45, .inl (upd g45 i45 l4)))) x52 = .inl (0, m59, .inl g59)) (h61 : x52 < n) (h62 : mi_ix x57 m59 i59) (h64 : (va_up (va_up (va_up (va_up f x10 (.inl (0, m17, .inl (upd g17 i17 l2)))) x24 (.inl (0, m31, .inl (upd g31 i31 l3)))) x38 (.inl (0, m45, .inl (upd g45 i45 l4)))) x52 (.inl (0, m59, .inl (upd g59 i59 l5)))) l1 = .inr (12, fs63)) (h65 : l1 < n) (h67 : fs63[64]? = some (.ref x66)) (h69 : (va_up (va_up (va_up (va_up f x10 (.inl (0, m17, .inl (upd g17 i17 l2)))) x24 (.inl (0, m31, .inl (upd g31 i31 l3)))) x38 (.inl (0, m45, .inl (upd g45 i45 l4)))) x52 (.inl (0, m59, .inl (upd g59 i59 l5)))) l1 = .inr (12, fs68)) (h70 : l1 < n) (h72 : fs68[59]? = some (.int x71)) (h74 : (va_up (va_up (va_up (va_up f x10 (.inl (0, m17, .inl (upd g17 i17 l2)))) x24 (.inl (0, m31, .inl (upd g31 i31 l3)))) x38 (.inl (0, m45, .inl (upd g45 i45 l4)))) x52 (.inl (0, m59, .inl (upd g59 i59 l5)))) x66 = .inl (3, m73, .inr (.inl g73))) (h75 : x66 < n) (h76 : mi_ix x71 m73 i73) (h78 : (va_up (va_up (va_up (va_up (va_up f x10 (.inl (0, m17, .inl (upd g17 i17 l2)))) x24 (.inl (0, m31, .inl (upd g31 i31 l3)))) x38 (.inl (0, m45, .inl (upd g45 i45 l4)))) x52 (.inl (0, m59, .inl (upd g59 i59 l5)))) x66 (.inl (3, m73, .inr (.inl (vp_updL g73 i73 l6))))) l1 = .inr (12, fs77)) (h79 : l1 < n) (h81 : fs77[59]? = some (.int x80)) (h83 : (va_up (va_up (va_up (va_up (va_up f x10 (.inl (0, m17, .inl (upd g17 i17 l2)))) x24 (.inl (0, m31, .inl (upd g31 i31 l3)))) x38 (.inl (0, m45, .inl (upd g45 i45 l4)))) x52 (.inl (0, m59, .inl (upd g59 i59 l5)))) x66 (.inl (3, m73, .inr (.inl (vp_updL g73 i73 l6))))) l1 = .inr (12, fs82)) (h84 : l1 < n) (h85 : 59 < fs82.length) (h86 : Q (.inl (some (.int (x80 + 1)))) (n, sl, (va_up (va_up (va_up (va_up (va_up (va_up f x10 (.inl (0, m17, .inl (upd g17 i17 l2)))) x24 (.inl (0, m31, .inl (upd g31 i31 l3)))) x38 (.inl (0, m45, .inl (upd g45 i45 l4)))) x52 (.inl (0, m59, .inl (upd g59 i59 l5)))) x66 (.inl (3, m73, .inr (.inl (vp_updL g73 i73 l6))))) l1 (.inr (12, fs82.set 59 (.int (x80 + 1))))))) : mi_W d 188 0 [some (.ref l1), some (.int l2), some (.int l3), some (.int l4), some (.int l5), some (.long l6), none] [] (n, sl, f) Q := by
  refine w_aload_n cd_188_0 rfl ?_
  refine w_getfield cd_188_1 (show mt_f 12 178 = some (12, 60) by decide +kernel) h8 h9 h11 ?_
  refine w_aload_n cd_188_4 rfl ?_
  refine w_getfield cd_188_5 (show mt_f 12 258 = some (12, 59) by decide +kernel) h13 h14 h16 ?_
  refine w_iload_n cd_188_8 rfl ?_
  refine w_iastore cd_188_9 h18 h19 h20 ?_
  refine w_aload_n cd_188_10 rfl ?_
  refine w_getfield cd_188_11 (show mt_f 12 181 = some (12, 61) by decide +kernel) h22 h23 h25 ?_
  refine w_aload_n cd_188_14 rfl ?_
  refine w_getfield cd_188_15 (show mt_f 12 258 = some (12, 59) by decide +kernel) h27 h28 h30 ?_
  refine w_iload_n cd_188_18 rfl ?_
  refine w_iastore cd_188_19 h32 h33 h34 ?_
  refine w_aload_n cd_188_20 rfl ?_
  refine w_getfield cd_188_21 (show mt_f 12 184 = some (12, 62) by decide +kernel) h36 h37 h39 ?_
  refine w_aload_n cd_188_24 rfl ?_
  refine w_getfield cd_188_25 (show mt_f 12 258 = some (12, 59) by decide +kernel) h41 h42 h44 ?_
  refine w_iload_n cd_188_28 rfl ?_
  refine w_iastore cd_188_29 h46 h47 h48 ?_
  refine w_aload_n cd_188_30 rfl ?_
  refine w_getfield cd_188_31 (show mt_f 12 187 = some (12, 63) by decide +kernel) h50 h51 h53 ?_
  refine w_aload_n cd_188_34 rfl ?_
  refine w_getfield cd_188_35 (show mt_f 12 258 = some (12, 59) by decide +kernel) h55 h56 h58 ?_
  refine w_iload cd_188_38 rfl ?_
  refine w_iastore cd_188_40 h60 h61 h62 ?_
  refine w_aload_n cd_188_41 rfl ?_
  refine w_getfield cd_188_42 (show mt_f 12 190 = some (12, 64) by decide +kernel) h64 h65 h67 ?_
  refine w_aload_n cd_188_45 rfl ?_
  refine w_getfield cd_188_46 (show mt_f 12 258 = some (12, 59) by decide +kernel) h69 h70 h72 ?_
  refine w_lload cd_188_49 rfl ?_
  refine w_lastore cd_188_51 h74 h75 h76 ?_
  refine w_aload_n cd_188_52 rfl ?_
  refine w_dup_r cd_188_53 ?_
  refine w_getfield cd_188_54 (show mt_f 12 258 = some (12, 59) by decide +kernel) h78 h79 h81 ?_
  refine w_iconst (v := 1) cd_188_57 (by decide) ?_
  refine w_iadd cd_188_58 ?_
  refine w_dup_x1_ir cd_188_59 ?_
  refine w_putfield (w := .int (x80 + 1)) cd_188_60 (show mt_f 12 258 = some (12, 59) by decide +kernel) h83 h84 ⟨h85, rfl, Or.inl (by decide)⟩ ?_
  exact w_ireturn_i cd_188_63 (by decide +kernel) h86
/-! MarloweHostModel.choose(IJ)I -/
set_option maxRecDepth 100000 in
theorem mq_189 : mt_q 189 = my_189 := rfl
set_option maxRecDepth 100000 in
theorem ci_189 : mt_inc 0 my_189.cd = true := by decide +kernel
theorem cd_189_0 : mt_cd 189 0 = some (.aload_n 0) := mt_cd_of (q := (0, .aload_n 0, 1)) mq_189 ci_189 (List.mem_of_getElem? (i := 0) rfl)
theorem cd_189_1 : mt_cd 189 1 = some (.iconst 0) := mt_cd_of (q := (1, .iconst 0, 1)) mq_189 ci_189 (List.mem_of_getElem? (i := 1) rfl)
theorem cd_189_2 : mt_cd 189 2 = some (.putfield 248) := mt_cd_of (q := (2, .putfield 248, 3)) mq_189 ci_189 (List.mem_of_getElem? (i := 2) rfl)
theorem cd_189_5 : mt_cd 189 5 = some (.aload_n 0) := mt_cd_of (q := (5, .aload_n 0, 1)) mq_189 ci_189 (List.mem_of_getElem? (i := 3) rfl)
theorem cd_189_6 : mt_cd 189 6 = some (.iload_n 1) := mt_cd_of (q := (6, .iload_n 1, 1)) mq_189 ci_189 (List.mem_of_getElem? (i := 4) rfl)
theorem cd_189_7 : mt_cd 189 7 = some (.i2l) := mt_cd_of (q := (7, .i2l, 1)) mq_189 ci_189 (List.mem_of_getElem? (i := 5) rfl)
theorem cd_189_8 : mt_cd 189 8 = some (.lconst 0) := mt_cd_of (q := (8, .lconst 0, 1)) mq_189 ci_189 (List.mem_of_getElem? (i := 6) rfl)
theorem cd_189_9 : mt_cd 189 9 = some (.ldc2_w 542) := mt_cd_of (q := (9, .ldc2_w 542, 3)) mq_189 ci_189 (List.mem_of_getElem? (i := 7) rfl)
theorem cd_189_12 : mt_cd 189 12 = some (.invokestatic 268) := mt_cd_of (q := (12, .invokestatic 268, 3)) mq_189 ci_189 (List.mem_of_getElem? (i := 8) rfl)
theorem cd_189_15 : mt_cd 189 15 = some (.ifCond .ne 7) := mt_cd_of (q := (15, .ifCond .ne 7, 3)) mq_189 ci_189 (List.mem_of_getElem? (i := 9) rfl)
theorem cd_189_18 : mt_cd 189 18 = some (.iconst 1) := mt_cd_of (q := (18, .iconst 1, 1)) mq_189 ci_189 (List.mem_of_getElem? (i := 10) rfl)
theorem cd_189_19 : mt_cd 189 19 = some (.goto 4) := mt_cd_of (q := (19, .goto 4, 3)) mq_189 ci_189 (List.mem_of_getElem? (i := 11) rfl)
theorem cd_189_22 : mt_cd 189 22 = some (.iconst 0) := mt_cd_of (q := (22, .iconst 0, 1)) mq_189 ci_189 (List.mem_of_getElem? (i := 12) rfl)
theorem cd_189_23 : mt_cd 189 23 = some (.iconst 1) := mt_cd_of (q := (23, .iconst 1, 1)) mq_189 ci_189 (List.mem_of_getElem? (i := 13) rfl)
theorem cd_189_24 : mt_cd 189 24 = some (.invokevirtual 254) := mt_cd_of (q := (24, .invokevirtual 254, 3)) mq_189 ci_189 (List.mem_of_getElem? (i := 14) rfl)
theorem cd_189_27 : mt_cd 189 27 = some (.ifCond .ne 25) := mt_cd_of (q := (27, .ifCond .ne 25, 3)) mq_189 ci_189 (List.mem_of_getElem? (i := 15) rfl)
theorem cd_189_30 : mt_cd 189 30 = some (.aload_n 0) := mt_cd_of (q := (30, .aload_n 0, 1)) mq_189 ci_189 (List.mem_of_getElem? (i := 16) rfl)
theorem cd_189_31 : mt_cd 189 31 = some (.aload_n 0) := mt_cd_of (q := (31, .aload_n 0, 1)) mq_189 ci_189 (List.mem_of_getElem? (i := 17) rfl)
theorem cd_189_32 : mt_cd 189 32 = some (.getfield 258) := mt_cd_of (q := (32, .getfield 258, 3)) mq_189 ci_189 (List.mem_of_getElem? (i := 18) rfl)
theorem cd_189_35 : mt_cd 189 35 = some (.bipush 16) := mt_cd_of (q := (35, .bipush 16, 2)) mq_189 ci_189 (List.mem_of_getElem? (i := 19) rfl)
theorem cd_189_37 : mt_cd 189 37 = some (.if_icmp .ne 7) := mt_cd_of (q := (37, .if_icmp .ne 7, 3)) mq_189 ci_189 (List.mem_of_getElem? (i := 20) rfl)
theorem cd_189_40 : mt_cd 189 40 = some (.iconst 1) := mt_cd_of (q := (40, .iconst 1, 1)) mq_189 ci_189 (List.mem_of_getElem? (i := 21) rfl)
theorem cd_189_41 : mt_cd 189 41 = some (.goto 4) := mt_cd_of (q := (41, .goto 4, 3)) mq_189 ci_189 (List.mem_of_getElem? (i := 22) rfl)
theorem cd_189_44 : mt_cd 189 44 = some (.iconst 0) := mt_cd_of (q := (44, .iconst 0, 1)) mq_189 ci_189 (List.mem_of_getElem? (i := 23) rfl)
theorem cd_189_45 : mt_cd 189 45 = some (.iconst 2) := mt_cd_of (q := (45, .iconst 2, 1)) mq_189 ci_189 (List.mem_of_getElem? (i := 24) rfl)
theorem cd_189_46 : mt_cd 189 46 = some (.invokevirtual 254) := mt_cd_of (q := (46, .invokevirtual 254, 3)) mq_189 ci_189 (List.mem_of_getElem? (i := 25) rfl)
theorem cd_189_49 : mt_cd 189 49 = some (.ifCond .eq 5) := mt_cd_of (q := (49, .ifCond .eq 5, 3)) mq_189 ci_189 (List.mem_of_getElem? (i := 26) rfl)
theorem cd_189_52 : mt_cd 189 52 = some (.iconst 0) := mt_cd_of (q := (52, .iconst 0, 1)) mq_189 ci_189 (List.mem_of_getElem? (i := 27) rfl)
theorem cd_189_53 : mt_cd 189 53 = some (.ireturn) := mt_cd_of (q := (53, .ireturn, 1)) mq_189 ci_189 (List.mem_of_getElem? (i := 28) rfl)
theorem cd_189_54 : mt_cd 189 54 = some (.aload_n 0) := mt_cd_of (q := (54, .aload_n 0, 1)) mq_189 ci_189 (List.mem_of_getElem? (i := 29) rfl)
theorem cd_189_55 : mt_cd 189 55 = some (.bipush 8) := mt_cd_of (q := (55, .bipush 8, 2)) mq_189 ci_189 (List.mem_of_getElem? (i := 30) rfl)
theorem cd_189_57 : mt_cd 189 57 = some (.iload_n 1) := mt_cd_of (q := (57, .iload_n 1, 1)) mq_189 ci_189 (List.mem_of_getElem? (i := 31) rfl)
theorem cd_189_58 : mt_cd 189 58 = some (.iconst 0) := mt_cd_of (q := (58, .iconst 0, 1)) mq_189 ci_189 (List.mem_of_getElem? (i := 32) rfl)
theorem cd_189_59 : mt_cd 189 59 = some (.iconst 0) := mt_cd_of (q := (59, .iconst 0, 1)) mq_189 ci_189 (List.mem_of_getElem? (i := 33) rfl)
theorem cd_189_60 : mt_cd 189 60 = some (.lload_n 2) := mt_cd_of (q := (60, .lload_n 2, 1)) mq_189 ci_189 (List.mem_of_getElem? (i := 34) rfl)
theorem cd_189_61 : mt_cd 189 61 = some (.invokevirtual 548) := mt_cd_of (q := (61, .invokevirtual 548, 3)) mq_189 ci_189 (List.mem_of_getElem? (i := 35) rfl)
theorem cd_189_64 : mt_cd 189 64 = some (.ireturn) := mt_cd_of (q := (64, .ireturn, 1)) mq_189 ci_189 (List.mem_of_getElem? (i := 36) rfl)
theorem b_189_0 {d : Nat} {Q : (Option Value ⊕ Nat) → mi_H → Prop} (n sl : Nat) (f : Nat → mi_C) {l1 : Nat} {l2 : Int32} {l3 : Int64} {fs4 : List Value} (h5 : f l1 = .inr (12, fs4)) (h6 : l1 < n) (h7 : 0 < fs4.length) (h8 : mi_W d 142 0 (mi_en 6 [.long ((l2 : Int32).toInt64), .long 0, .long 7]) [] (n, sl, (va_up f l1 (.inr (12, fs4.set 0 (.int 0))))) (mi_Kc d 189 12 [some (.ref l1), some (.int l2), some (.long l3), none] [.ref l1] Q)) : mi_W (d + 1) 189 0 [some (.ref l1), some (.int l2), some (.long l3), none] [] (n, sl, f) Q := by
  refine w_aload_n cd_189_0 rfl ?_
  refine w_iconst (v := 0) cd_189_1 (by decide) ?_
  refine w_putfield (w := .int 0) cd_189_2 (show mt_f 12 248 = some (12, 0) by decide +kernel) h5 h6 ⟨h7, rfl, Or.inl (by decide)⟩ ?_
  refine w_aload_n cd_189_5 rfl ?_
  refine w_iload_n cd_189_6 rfl ?_
  refine w_i2l cd_189_7 ?_
  refine w_lconst (lv := 0) cd_189_8 (by decide) ?_
  refine w_ldc2_w (lv := 7) cd_189_9 (by decide +kernel) ?_
  exact w_invokestatic cd_189_12 (show mt_m 12 268 = some (142, 4) by decide +kernel) (by decide) (rest := [.ref l1]) rfl (as := [.long ((l2 : Int32).toInt64), .long 0, .long 7]) rfl ⟨Nat.le_of_ble_eq_true rfl, Nat.le_of_ble_eq_true rfl, Nat.le_of_ble_eq_true rfl⟩ h8
theorem b_189_15 {d : Nat} {Q : (Option Value ⊕ Nat) → mi_H → Prop} (n sl : Nat) (f : Nat → mi_C) {l1 : Nat} {l2 : Int32} {l3 : Int64} {s4 : Int32} {s5 : Nat} (h6 : ¬ s4 = (0 : Int32) → mi_W d 189 22 [some (.ref l1), some (.int l2), some (.long l3), none] [.ref s5] (n, sl, f) Q) (h7 : ¬ (¬ s4 = (0 : Int32)) → mi_W d 189 18 [some (.ref l1), some (.int l2), some (.long l3), none] [.ref s5] (n, sl, f) Q) : mi_W d 189 15 [some (.ref l1), some (.int l2), some (.long l3), none] [.int s4, .ref s5] (n, sl, f) Q := by
  exact w_ifne cd_189_15 (by decide) h6 h7
theorem b_189_18 {d : Nat} {Q : (Option Value ⊕ Nat) → mi_H → Prop} (n sl : Nat) (f : Nat → mi_C) {l1 : Nat} {l2 : Int32} {l3 : Int64} {s4 : Nat} (h5 : mi_W d 189 23 [some (.ref l1), some (.int l2), some (.long l3), none] [.int 1, .ref s4] (n, sl, f) Q) : mi_W d 189 18 [some (.ref l1), some (.int l2), some (.long l3), none] [.ref s4] (n, sl, f) Q := by
  refine w_iconst (v := 1) cd_189_18 (by decide) ?_
  exact w_goto cd_189_19 (by decide) h5
theorem b_189_22 {d : Nat} {Q : (Option Value ⊕ Nat) → mi_H → Prop} (n sl : Nat) (f : Nat → mi_C) {l1 : Nat} {l2 : Int32} {l3 : Int64} {s4 : Nat} (h5 : mi_W d 189 23 [some (.ref l1), some (.int l2), some (.long l3), none] [.int 0, .ref s4] (n, sl, f) Q) : mi_W d 189 22 [some (.ref l1), some (.int l2), some (.long l3), none] [.ref s4] (n, sl, f) Q := by
  refine w_iconst (v := 0) cd_189_22 (by decide) ?_
  exact h5
theorem b_189_23 {d : Nat} {Q : (Option Value ⊕ Nat) → mi_H → Prop} (n sl : Nat) (f : Nat → mi_C) {l1 : Nat} {l2 : Int32} {l3 : Int64} {s4 : Int32} {s5 : Nat} {fs6 : List Value} (h7 : f s5 = .inr (12, fs6)) (h8 : s5 < n) (h9 : mi_W d 140 0 (mi_en 3 [.ref s5, .int s4, .int 1]) [] (n, sl, f) (mi_Kc d 189 24 [some (.ref l1), some (.int l2), some (.long l3), none] [] Q)) : mi_W (d + 1) 189 23 [some (.ref l1), some (.int l2), some (.long l3), none] [.int s4, .ref s5] (n, sl, f) Q := by
  refine w_iconst (v := 1) cd_189_23 (by decide) ?_
  exact w_invokevirtual cd_189_24 (show mt_m 12 254 = some (140, 0) by decide +kernel) (rest := []) rfl (as := [.ref s5, .int s4, .int 1]) rfl h7 (Or.inl h8) ⟨Nat.le_of_ble_eq_true rfl, Nat.le_of_ble_eq_true rfl, Nat.le_of_ble_eq_true rfl⟩ h9
theorem b_189_27 {d : Nat} {Q : (Option Value ⊕ Nat) → mi_H → Prop} (n sl : Nat) (f : Nat → mi_C) {l1 : Nat} {l2 : Int32} {l3 : Int64} {s4 : Int32} (h5 : ¬ s4 = (0 : Int32) → mi_W d 189 52 [some (.ref l1), some (.int l2), some (.long l3), none] [] (n, sl, f) Q) (h6 : ¬ (¬ s4 = (0 : Int32)) → mi_W d 189 30 [some (.ref l1), some (.int l2), some (.long l3), none] [] (n, sl, f) Q) : mi_W d 189 27 [some (.ref l1), some (.int l2), some (.long l3), none] [.int s4] (n, sl, f) Q := by
  exact w_ifne cd_189_27 (by decide) h5 h6
theorem b_189_30 {d : Nat} {Q : (Option Value ⊕ Nat) → mi_H → Prop} (n sl : Nat) (f : Nat → mi_C) {l1 : Nat} {l2 : Int32} {l3 : Int64} {fs4 : List Value} {x7 : Int32} (h5 : f l1 = .inr (12, fs4)) (h6 : l1 < n) (h8 : fs4[59]? = some (.int x7)) (h9 : ¬ x7 = 16 → mi_W d 189 44 [some (.ref l1), some (.int l2), some (.long l3), none] [.ref l1] (n, sl, f) Q) (h10 : ¬ (¬ x7 = 16) → mi_W d 189 40 [some (.ref l1), some (.int l2), some (.long l3), none] [.ref l1] (n, sl, f) Q) : mi_W d 189 30 [some (.ref l1), some (.int l2), some (.long l3), none] [] (n, sl, f) Q := by
  refine w_aload_n cd_189_30 rfl ?_
  refine w_aload_n cd_189_31 rfl ?_
  refine w_getfield cd_189_32 (show mt_f 12 258 = some (12, 59) by decide +kernel) h5 h6 h8 ?_
  refine w_bipush (v := 16) cd_189_35 (by decide) ?_
  exact w_if_icmpne cd_189_37 (by decide) h9 h10
theorem b_189_40 {d : Nat} {Q : (Option Value ⊕ Nat) → mi_H → Prop} (n sl : Nat) (f : Nat → mi_C) {l1 : Nat} {l2 : Int32} {l3 : Int64} {s4 : Nat} (h5 : mi_W d 189 45 [some (.ref l1), some (.int l2), some (.long l3), none] [.int 1, .ref s4] (n, sl, f) Q) : mi_W d 189 40 [some (.ref l1), some (.int l2), some (.long l3), none] [.ref s4] (n, sl, f) Q := by
  refine w_iconst (v := 1) cd_189_40 (by decide) ?_
  exact w_goto cd_189_41 (by decide) h5
theorem b_189_44 {d : Nat} {Q : (Option Value ⊕ Nat) → mi_H → Prop} (n sl : Nat) (f : Nat → mi_C) {l1 : Nat} {l2 : Int32} {l3 : Int64} {s4 : Nat} (h5 : mi_W d 189 45 [some (.ref l1), some (.int l2), some (.long l3), none] [.int 0, .ref s4] (n, sl, f) Q) : mi_W d 189 44 [some (.ref l1), some (.int l2), some (.long l3), none] [.ref s4] (n, sl, f) Q := by
  refine w_iconst (v := 0) cd_189_44 (by decide) ?_
  exact h5
theorem b_189_45 {d : Nat} {Q : (Option Value ⊕ Nat) → mi_H → Prop} (n sl : Nat) (f : Nat → mi_C) {l1 : Nat} {l2 : Int32} {l3 : Int64} {s4 : Int32} {s5 : Nat} {fs6 : List Value} (h7 : f s5 = .inr (12, fs6)) (h8 : s5 < n) (h9 : mi_W d 140 0 (mi_en 3 [.ref s5, .int s4, .int 2]) [] (n, sl, f) (mi_Kc d 189 46 [some (.ref l1), some (.int l2), some (.long l3), none] [] Q)) : mi_W (d + 1) 189 45 [some (.ref l1), some (.int l2), some (.long l3), none] [.int s4, .ref s5] (n, sl, f) Q := by
  refine w_iconst (v := 2) cd_189_45 (by decide) ?_
  exact w_invokevirtual cd_189_46 (show mt_m 12 254 = some (140, 0) by decide +kernel) (rest := []) rfl (as := [.ref s5, .int s4, .int 2]) rfl h7 (Or.inl h8) ⟨Nat.le_of_ble_eq_true rfl, Nat.le_of_ble_eq_true rfl, Nat.le_of_ble_eq_true rfl⟩ h9
theorem b_189_49 {d : Nat} {Q : (Option Value ⊕ Nat) → mi_H → Prop} (n sl : Nat) (f : Nat → mi_C) {l1 : Nat} {l2 : Int32} {l3 : Int64} {s4 : Int32} (h5 : s4 = (0 : Int32) → mi_W d 189 54 [some (.ref l1), some (.int l2), some (.long l3), none] [] (n, sl, f) Q) (h6 : ¬ (s4 = (0 : Int32)) → mi_W d 189 52 [some (.ref l1), some (.int l2), some (.long l3), none] [] (n, sl, f) Q) : mi_W d 189 49 [some (.ref l1), some (.int l2), some (.long l3), none] [.int s4] (n, sl, f) Q := by
  exact w_ifeq cd_189_49 (by decide) h5 h6
theorem b_189_52 {d : Nat} {Q : (Option Value ⊕ Nat) → mi_H → Prop} (n sl : Nat) (f : Nat → mi_C) {l1 : Nat} {l2 : Int32} {l3 : Int64} (h4 : Q (.inl (some (.int 0))) (n, sl, f)) : mi_W d 189 52 [some (.ref l1), some (.int l2), some (.long l3), none] [] (n, sl, f) Q := by
  refine w_iconst (v := 0) cd_189_52 (by decide) ?_
  exact w_ireturn_i cd_189_53 (by decide +kernel) h4
theorem b_189_54 {d : Nat} {Q : (Option Value ⊕ Nat) → mi_H → Prop} (n sl : Nat) (f : Nat → mi_C) {l1 : Nat} {l2 : Int32} {l3 : Int64} {fs4 : List Value} (h5 : f l1 = .inr (12, fs4)) (h6 : l1 < n) (h7 : mi_W d 188 0 (mi_en 7 [.ref l1, .int 8, .int l2, .int 0, .int 0, .long l3]) [] (n, sl, f) (mi_Kc d 189 61 [some (.ref l1), some (.int l2), some (.long l3), none] [] Q)) : mi_W (d + 1) 189 54 [some (.ref l1), some (.int l2), some (.long l3), none] [] (n, sl, f) Q := by
  refine w_aload_n cd_189_54 rfl ?_
  refine w_bipush (v := 8) cd_189_55 (by decide) ?_
  refine w_iload_n cd_189_57 rfl ?_
  refine w_iconst (v := 0) cd_189_58 (by decide) ?_
  refine w_iconst (v := 0) cd_189_59 (by decide) ?_
  refine w_lload_n cd_189_60 rfl ?_
  exact w_invokevirtual cd_189_61 (show mt_m 12 548 = some (188, 0) by decide +kernel) (rest := []) rfl (as := [.ref l1, .int 8, .int l2, .int 0, .int 0, .long l3]) rfl h5 (Or.inl h6) ⟨Nat.le_of_ble_eq_true rfl, Nat.le_of_ble_eq_true rfl, Nat.le_of_ble_eq_true rfl⟩ h7
theorem b_189_64 {d : Nat} {Q : (Option Value ⊕ Nat) → mi_H → Prop} (n sl : Nat) (f : Nat → mi_C) {l1 : Nat} {l2 : Int32} {l3 : Int64} {s4 : Int32} (h5 : Q (.inl (some (.int s4))) (n, sl, f)) : mi_W d 189 64 [some (.ref l1), some (.int l2), some (.long l3), none] [.int s4] (n, sl, f) Q := by
  exact w_ireturn_i cd_189_64 (by decide +kernel) h5
/-! MarloweHostModel.remind()I -/
set_option maxRecDepth 100000 in
theorem mq_190 : mt_q 190 = my_190 := rfl
set_option maxRecDepth 100000 in
theorem ci_190 : mt_inc 0 my_190.cd = true := by decide +kernel
theorem cd_190_0 : mt_cd 190 0 = some (.aload_n 0) := mt_cd_of (q := (0, .aload_n 0, 1)) mq_190 ci_190 (List.mem_of_getElem? (i := 0) rfl)
theorem cd_190_1 : mt_cd 190 1 = some (.iconst 0) := mt_cd_of (q := (1, .iconst 0, 1)) mq_190 ci_190 (List.mem_of_getElem? (i := 1) rfl)
theorem cd_190_2 : mt_cd 190 2 = some (.putfield 248) := mt_cd_of (q := (2, .putfield 248, 3)) mq_190 ci_190 (List.mem_of_getElem? (i := 2) rfl)
theorem cd_190_5 : mt_cd 190 5 = some (.aload_n 0) := mt_cd_of (q := (5, .aload_n 0, 1)) mq_190 ci_190 (List.mem_of_getElem? (i := 3) rfl)
theorem cd_190_6 : mt_cd 190 6 = some (.aload_n 0) := mt_cd_of (q := (6, .aload_n 0, 1)) mq_190 ci_190 (List.mem_of_getElem? (i := 4) rfl)
theorem cd_190_7 : mt_cd 190 7 = some (.getfield 258) := mt_cd_of (q := (7, .getfield 258, 3)) mq_190 ci_190 (List.mem_of_getElem? (i := 5) rfl)
theorem cd_190_10 : mt_cd 190 10 = some (.bipush 16) := mt_cd_of (q := (10, .bipush 16, 2)) mq_190 ci_190 (List.mem_of_getElem? (i := 6) rfl)
theorem cd_190_12 : mt_cd 190 12 = some (.if_icmp .ne 7) := mt_cd_of (q := (12, .if_icmp .ne 7, 3)) mq_190 ci_190 (List.mem_of_getElem? (i := 7) rfl)
theorem cd_190_15 : mt_cd 190 15 = some (.iconst 1) := mt_cd_of (q := (15, .iconst 1, 1)) mq_190 ci_190 (List.mem_of_getElem? (i := 8) rfl)
theorem cd_190_16 : mt_cd 190 16 = some (.goto 4) := mt_cd_of (q := (16, .goto 4, 3)) mq_190 ci_190 (List.mem_of_getElem? (i := 9) rfl)
theorem cd_190_19 : mt_cd 190 19 = some (.iconst 0) := mt_cd_of (q := (19, .iconst 0, 1)) mq_190 ci_190 (List.mem_of_getElem? (i := 10) rfl)
theorem cd_190_20 : mt_cd 190 20 = some (.iconst 1) := mt_cd_of (q := (20, .iconst 1, 1)) mq_190 ci_190 (List.mem_of_getElem? (i := 11) rfl)
theorem cd_190_21 : mt_cd 190 21 = some (.invokevirtual 254) := mt_cd_of (q := (21, .invokevirtual 254, 3)) mq_190 ci_190 (List.mem_of_getElem? (i := 12) rfl)
theorem cd_190_24 : mt_cd 190 24 = some (.ifCond .eq 5) := mt_cd_of (q := (24, .ifCond .eq 5, 3)) mq_190 ci_190 (List.mem_of_getElem? (i := 13) rfl)
theorem cd_190_27 : mt_cd 190 27 = some (.iconst 0) := mt_cd_of (q := (27, .iconst 0, 1)) mq_190 ci_190 (List.mem_of_getElem? (i := 14) rfl)
theorem cd_190_28 : mt_cd 190 28 = some (.ireturn) := mt_cd_of (q := (28, .ireturn, 1)) mq_190 ci_190 (List.mem_of_getElem? (i := 15) rfl)
theorem cd_190_29 : mt_cd 190 29 = some (.aload_n 0) := mt_cd_of (q := (29, .aload_n 0, 1)) mq_190 ci_190 (List.mem_of_getElem? (i := 16) rfl)
theorem cd_190_30 : mt_cd 190 30 = some (.bipush 9) := mt_cd_of (q := (30, .bipush 9, 2)) mq_190 ci_190 (List.mem_of_getElem? (i := 17) rfl)
theorem cd_190_32 : mt_cd 190 32 = some (.iconst 0) := mt_cd_of (q := (32, .iconst 0, 1)) mq_190 ci_190 (List.mem_of_getElem? (i := 18) rfl)
theorem cd_190_33 : mt_cd 190 33 = some (.iconst 0) := mt_cd_of (q := (33, .iconst 0, 1)) mq_190 ci_190 (List.mem_of_getElem? (i := 19) rfl)
theorem cd_190_34 : mt_cd 190 34 = some (.iconst 0) := mt_cd_of (q := (34, .iconst 0, 1)) mq_190 ci_190 (List.mem_of_getElem? (i := 20) rfl)
theorem cd_190_35 : mt_cd 190 35 = some (.lconst 0) := mt_cd_of (q := (35, .lconst 0, 1)) mq_190 ci_190 (List.mem_of_getElem? (i := 21) rfl)
theorem cd_190_36 : mt_cd 190 36 = some (.invokevirtual 548) := mt_cd_of (q := (36, .invokevirtual 548, 3)) mq_190 ci_190 (List.mem_of_getElem? (i := 22) rfl)
theorem cd_190_39 : mt_cd 190 39 = some (.ireturn) := mt_cd_of (q := (39, .ireturn, 1)) mq_190 ci_190 (List.mem_of_getElem? (i := 23) rfl)
theorem b_190_0 {d : Nat} {Q : (Option Value ⊕ Nat) → mi_H → Prop} (n sl : Nat) (f : Nat → mi_C) {l1 : Nat} {fs2 : List Value} {fs6 : List Value} {x9 : Int32} (h3 : f l1 = .inr (12, fs2)) (h4 : l1 < n) (h5 : 0 < fs2.length) (h7 : (va_up f l1 (.inr (12, fs2.set 0 (.int 0)))) l1 = .inr (12, fs6)) (h8 : l1 < n) (h10 : fs6[59]? = some (.int x9)) (h11 : ¬ x9 = 16 → mi_W d 190 19 [some (.ref l1)] [.ref l1] (n, sl, (va_up f l1 (.inr (12, fs2.set 0 (.int 0))))) Q) (h12 : ¬ (¬ x9 = 16) → mi_W d 190 15 [some (.ref l1)] [.ref l1] (n, sl, (va_up f l1 (.inr (12, fs2.set 0 (.int 0))))) Q) : mi_W d 190 0 [some (.ref l1)] [] (n, sl, f) Q := by
  refine w_aload_n cd_190_0 rfl ?_
  refine w_iconst (v := 0) cd_190_1 (by decide) ?_
  refine w_putfield (w := .int 0) cd_190_2 (show mt_f 12 248 = some (12, 0) by decide +kernel) h3 h4 ⟨h5, rfl, Or.inl (by decide)⟩ ?_
  refine w_aload_n cd_190_5 rfl ?_
  refine w_aload_n cd_190_6 rfl ?_
  refine w_getfield cd_190_7 (show mt_f 12 258 = some (12, 59) by decide +kernel) h7 h8 h10 ?_
  refine w_bipush (v := 16) cd_190_10 (by decide) ?_
  exact w_if_icmpne cd_190_12 (by decide) h11 h12
theorem b_190_15 {d : Nat} {Q : (Option Value ⊕ Nat) → mi_H → Prop} (n sl : Nat) (f : Nat → mi_C) {l1 : Nat} {s2 : Nat} (h3 : mi_W d 190 20 [some (.ref l1)] [.int 1, .ref s2] (n, sl, f) Q) : mi_W d 190 15 [some (.ref l1)] [.ref s2] (n, sl, f) Q := by
  refine w_iconst (v := 1) cd_190_15 (by decide) ?_
  exact w_goto cd_190_16 (by decide) h3
theorem b_190_19 {d : Nat} {Q : (Option Value ⊕ Nat) → mi_H → Prop} (n sl : Nat) (f : Nat → mi_C) {l1 : Nat} {s2 : Nat} (h3 : mi_W d 190 20 [some (.ref l1)] [.int 0, .ref s2] (n, sl, f) Q) : mi_W d 190 19 [some (.ref l1)] [.ref s2] (n, sl, f) Q := by
  refine w_iconst (v := 0) cd_190_19 (by decide) ?_
  exact h3
theorem b_190_20 {d : Nat} {Q : (Option Value ⊕ Nat) → mi_H → Prop} (n sl : Nat) (f : Nat → mi_C) {l1 : Nat} {s2 : Int32} {s3 : Nat} {fs4 : List Value} (h5 : f s3 = .inr (12, fs4)) (h6 : s3 < n) (h7 : mi_W d 140 0 (mi_en 3 [.ref s3, .int s2, .int 1]) [] (n, sl, f) (mi_Kc d 190 21 [some (.ref l1)] [] Q)) : mi_W (d + 1) 190 20 [some (.ref l1)] [.int s2, .ref s3] (n, sl, f) Q := by
  refine w_iconst (v := 1) cd_190_20 (by decide) ?_
  exact w_invokevirtual cd_190_21 (show mt_m 12 254 = some (140, 0) by decide +kernel) (rest := []) rfl (as := [.ref s3, .int s2, .int 1]) rfl h5 (Or.inl h6) ⟨Nat.le_of_ble_eq_true rfl, Nat.le_of_ble_eq_true rfl, Nat.le_of_ble_eq_true rfl⟩ h7
theorem b_190_24 {d : Nat} {Q : (Option Value ⊕ Nat) → mi_H → Prop} (n sl : Nat) (f : Nat → mi_C) {l1 : Nat} {s2 : Int32} (h3 : s2 = (0 : Int32) → mi_W d 190 29 [some (.ref l1)] [] (n, sl, f) Q) (h4 : ¬ (s2 = (0 : Int32)) → mi_W d 190 27 [some (.ref l1)] [] (n, sl, f) Q) : mi_W d 190 24 [some (.ref l1)] [.int s2] (n, sl, f) Q := by
  exact w_ifeq cd_190_24 (by decide) h3 h4
theorem b_190_27 {d : Nat} {Q : (Option Value ⊕ Nat) → mi_H → Prop} (n sl : Nat) (f : Nat → mi_C) {l1 : Nat} (h2 : Q (.inl (some (.int 0))) (n, sl, f)) : mi_W d 190 27 [some (.ref l1)] [] (n, sl, f) Q := by
  refine w_iconst (v := 0) cd_190_27 (by decide) ?_
  exact w_ireturn_i cd_190_28 (by decide +kernel) h2
theorem b_190_29 {d : Nat} {Q : (Option Value ⊕ Nat) → mi_H → Prop} (n sl : Nat) (f : Nat → mi_C) {l1 : Nat} {fs2 : List Value} (h3 : f l1 = .inr (12, fs2)) (h4 : l1 < n) (h5 : mi_W d 188 0 (mi_en 7 [.ref l1, .int 9, .int 0, .int 0, .int 0, .long 0]) [] (n, sl, f) (mi_Kc d 190 36 [some (.ref l1)] [] Q)) : mi_W (d + 1) 190 29 [some (.ref l1)] [] (n, sl, f) Q := by
  refine w_aload_n cd_190_29 rfl ?_
  refine w_bipush (v := 9) cd_190_30 (by decide) ?_
  refine w_iconst (v := 0) cd_190_32 (by decide) ?_
  refine w_iconst (v := 0) cd_190_33 (by decide) ?_
  refine w_iconst (v := 0) cd_190_34 (by decide) ?_
  refine w_lconst (lv := 0) cd_190_35 (by decide) ?_
  exact w_invokevirtual cd_190_36 (show mt_m 12 548 = some (188, 0) by decide +kernel) (rest := []) rfl (as := [.ref l1, .int 9, .int 0, .int 0, .int 0, .long 0]) rfl h3 (Or.inl h4) ⟨Nat.le_of_ble_eq_true rfl, Nat.le_of_ble_eq_true rfl, Nat.le_of_ble_eq_true rfl⟩ h5
theorem b_190_39 {d : Nat} {Q : (Option Value ⊕ Nat) → mi_H → Prop} (n sl : Nat) (f : Nat → mi_C) {l1 : Nat} {s2 : Int32} (h3 : Q (.inl (some (.int s2))) (n, sl, f)) : mi_W d 190 39 [some (.ref l1)] [.int s2] (n, sl, f) Q := by
  exact w_ireturn_i cd_190_39 (by decide +kernel) h3
/-! MarloweHostModel.told(II)I -/
set_option maxRecDepth 100000 in
theorem mq_191 : mt_q 191 = my_191 := rfl
set_option maxRecDepth 100000 in
theorem ci_191 : mt_inc 0 my_191.cd = true := by decide +kernel
theorem cd_191_0 : mt_cd 191 0 = some (.aload_n 0) := mt_cd_of (q := (0, .aload_n 0, 1)) mq_191 ci_191 (List.mem_of_getElem? (i := 0) rfl)
theorem cd_191_1 : mt_cd 191 1 = some (.iconst 0) := mt_cd_of (q := (1, .iconst 0, 1)) mq_191 ci_191 (List.mem_of_getElem? (i := 1) rfl)
theorem cd_191_2 : mt_cd 191 2 = some (.putfield 248) := mt_cd_of (q := (2, .putfield 248, 3)) mq_191 ci_191 (List.mem_of_getElem? (i := 2) rfl)
theorem cd_191_5 : mt_cd 191 5 = some (.aload_n 0) := mt_cd_of (q := (5, .aload_n 0, 1)) mq_191 ci_191 (List.mem_of_getElem? (i := 3) rfl)
theorem cd_191_6 : mt_cd 191 6 = some (.iload_n 1) := mt_cd_of (q := (6, .iload_n 1, 1)) mq_191 ci_191 (List.mem_of_getElem? (i := 4) rfl)
theorem cd_191_7 : mt_cd 191 7 = some (.i2l) := mt_cd_of (q := (7, .i2l, 1)) mq_191 ci_191 (List.mem_of_getElem? (i := 5) rfl)
theorem cd_191_8 : mt_cd 191 8 = some (.lconst 0) := mt_cd_of (q := (8, .lconst 0, 1)) mq_191 ci_191 (List.mem_of_getElem? (i := 6) rfl)
theorem cd_191_9 : mt_cd 191 9 = some (.ldc2_w 552) := mt_cd_of (q := (9, .ldc2_w 552, 3)) mq_191 ci_191 (List.mem_of_getElem? (i := 7) rfl)
theorem cd_191_12 : mt_cd 191 12 = some (.invokestatic 268) := mt_cd_of (q := (12, .invokestatic 268, 3)) mq_191 ci_191 (List.mem_of_getElem? (i := 8) rfl)
theorem cd_191_15 : mt_cd 191 15 = some (.ifCond .ne 7) := mt_cd_of (q := (15, .ifCond .ne 7, 3)) mq_191 ci_191 (List.mem_of_getElem? (i := 9) rfl)
theorem cd_191_18 : mt_cd 191 18 = some (.iconst 1) := mt_cd_of (q := (18, .iconst 1, 1)) mq_191 ci_191 (List.mem_of_getElem? (i := 10) rfl)
theorem cd_191_19 : mt_cd 191 19 = some (.goto 4) := mt_cd_of (q := (19, .goto 4, 3)) mq_191 ci_191 (List.mem_of_getElem? (i := 11) rfl)
theorem cd_191_22 : mt_cd 191 22 = some (.iconst 0) := mt_cd_of (q := (22, .iconst 0, 1)) mq_191 ci_191 (List.mem_of_getElem? (i := 12) rfl)
theorem cd_191_23 : mt_cd 191 23 = some (.iconst 1) := mt_cd_of (q := (23, .iconst 1, 1)) mq_191 ci_191 (List.mem_of_getElem? (i := 13) rfl)
theorem cd_191_24 : mt_cd 191 24 = some (.invokevirtual 254) := mt_cd_of (q := (24, .invokevirtual 254, 3)) mq_191 ci_191 (List.mem_of_getElem? (i := 14) rfl)
theorem cd_191_27 : mt_cd 191 27 = some (.ifCond .ne 44) := mt_cd_of (q := (27, .ifCond .ne 44, 3)) mq_191 ci_191 (List.mem_of_getElem? (i := 15) rfl)
theorem cd_191_30 : mt_cd 191 30 = some (.aload_n 0) := mt_cd_of (q := (30, .aload_n 0, 1)) mq_191 ci_191 (List.mem_of_getElem? (i := 16) rfl)
theorem cd_191_31 : mt_cd 191 31 = some (.iload_n 2) := mt_cd_of (q := (31, .iload_n 2, 1)) mq_191 ci_191 (List.mem_of_getElem? (i := 17) rfl)
theorem cd_191_32 : mt_cd 191 32 = some (.i2l) := mt_cd_of (q := (32, .i2l, 1)) mq_191 ci_191 (List.mem_of_getElem? (i := 18) rfl)
theorem cd_191_33 : mt_cd 191 33 = some (.lconst 0) := mt_cd_of (q := (33, .lconst 0, 1)) mq_191 ci_191 (List.mem_of_getElem? (i := 19) rfl)
theorem cd_191_34 : mt_cd 191 34 = some (.iload_n 1) := mt_cd_of (q := (34, .iload_n 1, 1)) mq_191 ci_191 (List.mem_of_getElem? (i := 20) rfl)
theorem cd_191_35 : mt_cd 191 35 = some (.iconst 2) := mt_cd_of (q := (35, .iconst 2, 1)) mq_191 ci_191 (List.mem_of_getElem? (i := 21) rfl)
theorem cd_191_36 : mt_cd 191 36 = some (.if_icmp .ge 10) := mt_cd_of (q := (36, .if_icmp .ge 10, 3)) mq_191 ci_191 (List.mem_of_getElem? (i := 22) rfl)
theorem cd_191_39 : mt_cd 191 39 = some (.aload_n 0) := mt_cd_of (q := (39, .aload_n 0, 1)) mq_191 ci_191 (List.mem_of_getElem? (i := 23) rfl)
theorem cd_191_40 : mt_cd 191 40 = some (.getfield 536) := mt_cd_of (q := (40, .getfield 536, 3)) mq_191 ci_191 (List.mem_of_getElem? (i := 24) rfl)
theorem cd_191_43 : mt_cd 191 43 = some (.goto 7) := mt_cd_of (q := (43, .goto 7, 3)) mq_191 ci_191 (List.mem_of_getElem? (i := 25) rfl)
theorem cd_191_46 : mt_cd 191 46 = some (.aload_n 0) := mt_cd_of (q := (46, .aload_n 0, 1)) mq_191 ci_191 (List.mem_of_getElem? (i := 26) rfl)
theorem cd_191_47 : mt_cd 191 47 = some (.getfield 539) := mt_cd_of (q := (47, .getfield 539, 3)) mq_191 ci_191 (List.mem_of_getElem? (i := 27) rfl)
theorem cd_191_50 : mt_cd 191 50 = some (.iconst 1) := mt_cd_of (q := (50, .iconst 1, 1)) mq_191 ci_191 (List.mem_of_getElem? (i := 28) rfl)
theorem cd_191_51 : mt_cd 191 51 = some (.isub) := mt_cd_of (q := (51, .isub, 1)) mq_191 ci_191 (List.mem_of_getElem? (i := 29) rfl)
theorem cd_191_52 : mt_cd 191 52 = some (.i2l) := mt_cd_of (q := (52, .i2l, 1)) mq_191 ci_191 (List.mem_of_getElem? (i := 30) rfl)
theorem cd_191_53 : mt_cd 191 53 = some (.invokestatic 268) := mt_cd_of (q := (53, .invokestatic 268, 3)) mq_191 ci_191 (List.mem_of_getElem? (i := 31) rfl)
theorem cd_191_56 : mt_cd 191 56 = some (.ifCond .ne 7) := mt_cd_of (q := (56, .ifCond .ne 7, 3)) mq_191 ci_191 (List.mem_of_getElem? (i := 32) rfl)
theorem cd_191_59 : mt_cd 191 59 = some (.iconst 1) := mt_cd_of (q := (59, .iconst 1, 1)) mq_191 ci_191 (List.mem_of_getElem? (i := 33) rfl)
theorem cd_191_60 : mt_cd 191 60 = some (.goto 4) := mt_cd_of (q := (60, .goto 4, 3)) mq_191 ci_191 (List.mem_of_getElem? (i := 34) rfl)
theorem cd_191_63 : mt_cd 191 63 = some (.iconst 0) := mt_cd_of (q := (63, .iconst 0, 1)) mq_191 ci_191 (List.mem_of_getElem? (i := 35) rfl)
theorem cd_191_64 : mt_cd 191 64 = some (.iconst 2) := mt_cd_of (q := (64, .iconst 2, 1)) mq_191 ci_191 (List.mem_of_getElem? (i := 36) rfl)
theorem cd_191_65 : mt_cd 191 65 = some (.invokevirtual 254) := mt_cd_of (q := (65, .invokevirtual 254, 3)) mq_191 ci_191 (List.mem_of_getElem? (i := 37) rfl)
theorem cd_191_68 : mt_cd 191 68 = some (.ifCond .eq 5) := mt_cd_of (q := (68, .ifCond .eq 5, 3)) mq_191 ci_191 (List.mem_of_getElem? (i := 38) rfl)
theorem cd_191_71 : mt_cd 191 71 = some (.iconst 0) := mt_cd_of (q := (71, .iconst 0, 1)) mq_191 ci_191 (List.mem_of_getElem? (i := 39) rfl)
theorem cd_191_72 : mt_cd 191 72 = some (.ireturn) := mt_cd_of (q := (72, .ireturn, 1)) mq_191 ci_191 (List.mem_of_getElem? (i := 40) rfl)
theorem cd_191_73 : mt_cd 191 73 = some (.iload_n 1) := mt_cd_of (q := (73, .iload_n 1, 1)) mq_191 ci_191 (List.mem_of_getElem? (i := 41) rfl)
theorem cd_191_74 : mt_cd 191 74 = some (.ifCond .ne 12) := mt_cd_of (q := (74, .ifCond .ne 12, 3)) mq_191 ci_191 (List.mem_of_getElem? (i := 42) rfl)
theorem cd_191_77 : mt_cd 191 77 = some (.aload_n 0) := mt_cd_of (q := (77, .aload_n 0, 1)) mq_191 ci_191 (List.mem_of_getElem? (i := 43) rfl)
theorem cd_191_78 : mt_cd 191 78 = some (.getfield 193) := mt_cd_of (q := (78, .getfield 193, 3)) mq_191 ci_191 (List.mem_of_getElem? (i := 44) rfl)
theorem cd_191_81 : mt_cd 191 81 = some (.iload_n 2) := mt_cd_of (q := (81, .iload_n 2, 1)) mq_191 ci_191 (List.mem_of_getElem? (i := 45) rfl)
theorem cd_191_82 : mt_cd 191 82 = some (.iaload) := mt_cd_of (q := (82, .iaload, 1)) mq_191 ci_191 (List.mem_of_getElem? (i := 46) rfl)
theorem cd_191_83 : mt_cd 191 83 = some (.goto 51) := mt_cd_of (q := (83, .goto 51, 3)) mq_191 ci_191 (List.mem_of_getElem? (i := 47) rfl)
theorem cd_191_86 : mt_cd 191 86 = some (.iload_n 1) := mt_cd_of (q := (86, .iload_n 1, 1)) mq_191 ci_191 (List.mem_of_getElem? (i := 48) rfl)
theorem cd_191_87 : mt_cd 191 87 = some (.iconst 1) := mt_cd_of (q := (87, .iconst 1, 1)) mq_191 ci_191 (List.mem_of_getElem? (i := 49) rfl)
theorem cd_191_88 : mt_cd 191 88 = some (.if_icmp .ne 12) := mt_cd_of (q := (88, .if_icmp .ne 12, 3)) mq_191 ci_191 (List.mem_of_getElem? (i := 50) rfl)
theorem cd_191_91 : mt_cd 191 91 = some (.aload_n 0) := mt_cd_of (q := (91, .aload_n 0, 1)) mq_191 ci_191 (List.mem_of_getElem? (i := 51) rfl)
theorem cd_191_92 : mt_cd 191 92 = some (.getfield 196) := mt_cd_of (q := (92, .getfield 196, 3)) mq_191 ci_191 (List.mem_of_getElem? (i := 52) rfl)
theorem cd_191_95 : mt_cd 191 95 = some (.iload_n 2) := mt_cd_of (q := (95, .iload_n 2, 1)) mq_191 ci_191 (List.mem_of_getElem? (i := 53) rfl)
theorem cd_191_96 : mt_cd 191 96 = some (.iaload) := mt_cd_of (q := (96, .iaload, 1)) mq_191 ci_191 (List.mem_of_getElem? (i := 54) rfl)
theorem cd_191_97 : mt_cd 191 97 = some (.goto 37) := mt_cd_of (q := (97, .goto 37, 3)) mq_191 ci_191 (List.mem_of_getElem? (i := 55) rfl)
theorem cd_191_100 : mt_cd 191 100 = some (.iload_n 1) := mt_cd_of (q := (100, .iload_n 1, 1)) mq_191 ci_191 (List.mem_of_getElem? (i := 56) rfl)
theorem cd_191_101 : mt_cd 191 101 = some (.iconst 2) := mt_cd_of (q := (101, .iconst 2, 1)) mq_191 ci_191 (List.mem_of_getElem? (i := 57) rfl)
theorem cd_191_102 : mt_cd 191 102 = some (.if_icmp .ne 12) := mt_cd_of (q := (102, .if_icmp .ne 12, 3)) mq_191 ci_191 (List.mem_of_getElem? (i := 58) rfl)
theorem cd_191_105 : mt_cd 191 105 = some (.aload_n 0) := mt_cd_of (q := (105, .aload_n 0, 1)) mq_191 ci_191 (List.mem_of_getElem? (i := 59) rfl)
theorem cd_191_106 : mt_cd 191 106 = some (.getfield 199) := mt_cd_of (q := (106, .getfield 199, 3)) mq_191 ci_191 (List.mem_of_getElem? (i := 60) rfl)
theorem cd_191_109 : mt_cd 191 109 = some (.iload_n 2) := mt_cd_of (q := (109, .iload_n 2, 1)) mq_191 ci_191 (List.mem_of_getElem? (i := 61) rfl)
theorem cd_191_110 : mt_cd 191 110 = some (.iaload) := mt_cd_of (q := (110, .iaload, 1)) mq_191 ci_191 (List.mem_of_getElem? (i := 62) rfl)
theorem cd_191_111 : mt_cd 191 111 = some (.goto 23) := mt_cd_of (q := (111, .goto 23, 3)) mq_191 ci_191 (List.mem_of_getElem? (i := 63) rfl)
theorem cd_191_114 : mt_cd 191 114 = some (.iload_n 1) := mt_cd_of (q := (114, .iload_n 1, 1)) mq_191 ci_191 (List.mem_of_getElem? (i := 64) rfl)
theorem cd_191_115 : mt_cd 191 115 = some (.iconst 3) := mt_cd_of (q := (115, .iconst 3, 1)) mq_191 ci_191 (List.mem_of_getElem? (i := 65) rfl)
theorem cd_191_116 : mt_cd 191 116 = some (.if_icmp .ne 12) := mt_cd_of (q := (116, .if_icmp .ne 12, 3)) mq_191 ci_191 (List.mem_of_getElem? (i := 66) rfl)
theorem cd_191_119 : mt_cd 191 119 = some (.aload_n 0) := mt_cd_of (q := (119, .aload_n 0, 1)) mq_191 ci_191 (List.mem_of_getElem? (i := 67) rfl)
theorem cd_191_120 : mt_cd 191 120 = some (.getfield 202) := mt_cd_of (q := (120, .getfield 202, 3)) mq_191 ci_191 (List.mem_of_getElem? (i := 68) rfl)
theorem cd_191_123 : mt_cd 191 123 = some (.iload_n 2) := mt_cd_of (q := (123, .iload_n 2, 1)) mq_191 ci_191 (List.mem_of_getElem? (i := 69) rfl)
theorem cd_191_124 : mt_cd 191 124 = some (.iaload) := mt_cd_of (q := (124, .iaload, 1)) mq_191 ci_191 (List.mem_of_getElem? (i := 70) rfl)
theorem cd_191_125 : mt_cd 191 125 = some (.goto 9) := mt_cd_of (q := (125, .goto 9, 3)) mq_191 ci_191 (List.mem_of_getElem? (i := 71) rfl)
theorem cd_191_128 : mt_cd 191 128 = some (.aload_n 0) := mt_cd_of (q := (128, .aload_n 0, 1)) mq_191 ci_191 (List.mem_of_getElem? (i := 72) rfl)
theorem cd_191_129 : mt_cd 191 129 = some (.getfield 205) := mt_cd_of (q := (129, .getfield 205, 3)) mq_191 ci_191 (List.mem_of_getElem? (i := 73) rfl)
theorem cd_191_132 : mt_cd 191 132 = some (.iload_n 2) := mt_cd_of (q := (132, .iload_n 2, 1)) mq_191 ci_191 (List.mem_of_getElem? (i := 74) rfl)
theorem cd_191_133 : mt_cd 191 133 = some (.iaload) := mt_cd_of (q := (133, .iaload, 1)) mq_191 ci_191 (List.mem_of_getElem? (i := 75) rfl)
theorem cd_191_134 : mt_cd 191 134 = some (.ireturn) := mt_cd_of (q := (134, .ireturn, 1)) mq_191 ci_191 (List.mem_of_getElem? (i := 76) rfl)
theorem b_191_0 {d : Nat} {Q : (Option Value ⊕ Nat) → mi_H → Prop} (n sl : Nat) (f : Nat → mi_C) {l1 : Nat} {l2 : Int32} {l3 : Int32} {fs4 : List Value} (h5 : f l1 = .inr (12, fs4)) (h6 : l1 < n) (h7 : 0 < fs4.length) (h8 : mi_W d 142 0 (mi_en 6 [.long ((l2 : Int32).toInt64), .long 0, .long 4]) [] (n, sl, (va_up f l1 (.inr (12, fs4.set 0 (.int 0))))) (mi_Kc d 191 12 [some (.ref l1), some (.int l2), some (.int l3)] [.ref l1] Q)) : mi_W (d + 1) 191 0 [some (.ref l1), some (.int l2), some (.int l3)] [] (n, sl, f) Q := by
  refine w_aload_n cd_191_0 rfl ?_
  refine w_iconst (v := 0) cd_191_1 (by decide) ?_
  refine w_putfield (w := .int 0) cd_191_2 (show mt_f 12 248 = some (12, 0) by decide +kernel) h5 h6 ⟨h7, rfl, Or.inl (by decide)⟩ ?_
  refine w_aload_n cd_191_5 rfl ?_
  refine w_iload_n cd_191_6 rfl ?_
  refine w_i2l cd_191_7 ?_
  refine w_lconst (lv := 0) cd_191_8 (by decide) ?_
  refine w_ldc2_w (lv := 4) cd_191_9 (by decide +kernel) ?_
  exact w_invokestatic cd_191_12 (show mt_m 12 268 = some (142, 4) by decide +kernel) (by decide) (rest := [.ref l1]) rfl (as := [.long ((l2 : Int32).toInt64), .long 0, .long 4]) rfl ⟨Nat.le_of_ble_eq_true rfl, Nat.le_of_ble_eq_true rfl, Nat.le_of_ble_eq_true rfl⟩ h8
theorem b_191_15 {d : Nat} {Q : (Option Value ⊕ Nat) → mi_H → Prop} (n sl : Nat) (f : Nat → mi_C) {l1 : Nat} {l2 : Int32} {l3 : Int32} {s4 : Int32} {s5 : Nat} (h6 : ¬ s4 = (0 : Int32) → mi_W d 191 22 [some (.ref l1), some (.int l2), some (.int l3)] [.ref s5] (n, sl, f) Q) (h7 : ¬ (¬ s4 = (0 : Int32)) → mi_W d 191 18 [some (.ref l1), some (.int l2), some (.int l3)] [.ref s5] (n, sl, f) Q) : mi_W d 191 15 [some (.ref l1), some (.int l2), some (.int l3)] [.int s4, .ref s5] (n, sl, f) Q := by
  exact w_ifne cd_191_15 (by decide) h6 h7
theorem b_191_18 {d : Nat} {Q : (Option Value ⊕ Nat) → mi_H → Prop} (n sl : Nat) (f : Nat → mi_C) {l1 : Nat} {l2 : Int32} {l3 : Int32} {s4 : Nat} (h5 : mi_W d 191 23 [some (.ref l1), some (.int l2), some (.int l3)] [.int 1, .ref s4] (n, sl, f) Q) : mi_W d 191 18 [some (.ref l1), some (.int l2), some (.int l3)] [.ref s4] (n, sl, f) Q := by
  refine w_iconst (v := 1) cd_191_18 (by decide) ?_
  exact w_goto cd_191_19 (by decide) h5
theorem b_191_22 {d : Nat} {Q : (Option Value ⊕ Nat) → mi_H → Prop} (n sl : Nat) (f : Nat → mi_C) {l1 : Nat} {l2 : Int32} {l3 : Int32} {s4 : Nat} (h5 : mi_W d 191 23 [some (.ref l1), some (.int l2), some (.int l3)] [.int 0, .ref s4] (n, sl, f) Q) : mi_W d 191 22 [some (.ref l1), some (.int l2), some (.int l3)] [.ref s4] (n, sl, f) Q := by
  refine w_iconst (v := 0) cd_191_22 (by decide) ?_
  exact h5
theorem b_191_23 {d : Nat} {Q : (Option Value ⊕ Nat) → mi_H → Prop} (n sl : Nat) (f : Nat → mi_C) {l1 : Nat} {l2 : Int32} {l3 : Int32} {s4 : Int32} {s5 : Nat} {fs6 : List Value} (h7 : f s5 = .inr (12, fs6)) (h8 : s5 < n) (h9 : mi_W d 140 0 (mi_en 3 [.ref s5, .int s4, .int 1]) [] (n, sl, f) (mi_Kc d 191 24 [some (.ref l1), some (.int l2), some (.int l3)] [] Q)) : mi_W (d + 1) 191 23 [some (.ref l1), some (.int l2), some (.int l3)] [.int s4, .ref s5] (n, sl, f) Q := by
  refine w_iconst (v := 1) cd_191_23 (by decide) ?_
  exact w_invokevirtual cd_191_24 (show mt_m 12 254 = some (140, 0) by decide +kernel) (rest := []) rfl (as := [.ref s5, .int s4, .int 1]) rfl h7 (Or.inl h8) ⟨Nat.le_of_ble_eq_true rfl, Nat.le_of_ble_eq_true rfl, Nat.le_of_ble_eq_true rfl⟩ h9
theorem b_191_27 {d : Nat} {Q : (Option Value ⊕ Nat) → mi_H → Prop} (n sl : Nat) (f : Nat → mi_C) {l1 : Nat} {l2 : Int32} {l3 : Int32} {s4 : Int32} (h5 : ¬ s4 = (0 : Int32) → mi_W d 191 71 [some (.ref l1), some (.int l2), some (.int l3)] [] (n, sl, f) Q) (h6 : ¬ (¬ s4 = (0 : Int32)) → mi_W d 191 30 [some (.ref l1), some (.int l2), some (.int l3)] [] (n, sl, f) Q) : mi_W d 191 27 [some (.ref l1), some (.int l2), some (.int l3)] [.int s4] (n, sl, f) Q := by
  exact w_ifne cd_191_27 (by decide) h5 h6
theorem b_191_30 {d : Nat} {Q : (Option Value ⊕ Nat) → mi_H → Prop} (n sl : Nat) (f : Nat → mi_C) {l1 : Nat} {l2 : Int32} {l3 : Int32} (h4 : 2 ≤ l2 → mi_W d 191 46 [some (.ref l1), some (.int l2), some (.int l3)] [.long 0, .long ((l3 : Int32).toInt64), .ref l1] (n, sl, f) Q) (h5 : ¬ (2 ≤ l2) → mi_W d 191 39 [some (.ref l1), some (.int l2), some (.int l3)] [.long 0, .long ((l3 : Int32).toInt64), .ref l1] (n, sl, f) Q) : mi_W d 191 30 [some (.ref l1), some (.int l2), some (.int l3)] [] (n, sl, f) Q := by
  refine w_aload_n cd_191_30 rfl ?_
  refine w_iload_n cd_191_31 rfl ?_
  refine w_i2l cd_191_32 ?_
  refine w_lconst (lv := 0) cd_191_33 (by decide) ?_
  refine w_iload_n cd_191_34 rfl ?_
  refine w_iconst (v := 2) cd_191_35 (by decide) ?_
  exact w_if_icmpge cd_191_36 (by decide) h4 h5
theorem b_191_39 {d : Nat} {Q : (Option Value ⊕ Nat) → mi_H → Prop} (n sl : Nat) (f : Nat → mi_C) {l1 : Nat} {l2 : Int32} {l3 : Int32} {s4 : Int64} {s5 : Int64} {s6 : Nat} {fs7 : List Value} {x10 : Int32} (h8 : f l1 = .inr (12, fs7)) (h9 : l1 < n) (h11 : fs7[65]? = some (.int x10)) (h12 : mi_W d 191 50 [some (.ref l1), some (.int l2), some (.int l3)] [.int x10, .long s4, .long s5, .ref s6] (n, sl, f) Q) : mi_W d 191 39 [some (.ref l1), some (.int l2), some (.int l3)] [.long s4, .long s5, .ref s6] (n, sl, f) Q := by
  refine w_aload_n cd_191_39 rfl ?_
  refine w_getfield cd_191_40 (show mt_f 12 536 = some (12, 65) by decide +kernel) h8 h9 h11 ?_
  exact w_goto cd_191_43 (by decide) h12
theorem b_191_46 {d : Nat} {Q : (Option Value ⊕ Nat) → mi_H → Prop} (n sl : Nat) (f : Nat → mi_C) {l1 : Nat} {l2 : Int32} {l3 : Int32} {s4 : Int64} {s5 : Int64} {s6 : Nat} {fs7 : List Value} {x10 : Int32} (h8 : f l1 = .inr (12, fs7)) (h9 : l1 < n) (h11 : fs7[66]? = some (.int x10)) (h12 : mi_W d 191 50 [some (.ref l1), some (.int l2), some (.int l3)] [.int x10, .long s4, .long s5, .ref s6] (n, sl, f) Q) : mi_W d 191 46 [some (.ref l1), some (.int l2), some (.int l3)] [.long s4, .long s5, .ref s6] (n, sl, f) Q := by
  refine w_aload_n cd_191_46 rfl ?_
  refine w_getfield cd_191_47 (show mt_f 12 539 = some (12, 66) by decide +kernel) h8 h9 h11 ?_
  exact h12
theorem b_191_50 {d : Nat} {Q : (Option Value ⊕ Nat) → mi_H → Prop} (n sl : Nat) (f : Nat → mi_C) {l1 : Nat} {l2 : Int32} {l3 : Int32} {s4 : Int32} {s5 : Int64} {s6 : Int64} {s7 : Nat} (h8 : mi_W d 142 0 (mi_en 6 [.long s6, .long s5, .long (((s4 - 1) : Int32).toInt64)]) [] (n, sl, f) (mi_Kc d 191 53 [some (.ref l1), some (.int l2), some (.int l3)] [.ref s7] Q)) : mi_W (d + 1) 191 50 [some (.ref l1), some (.int l2), some (.int l3)] [.int s4, .long s5, .long s6, .ref s7] (n, sl, f) Q := by
  refine w_iconst (v := 1) cd_191_50 (by decide) ?_
  refine w_isub cd_191_51 ?_
  refine w_i2l cd_191_52 ?_
  exact w_invokestatic cd_191_53 (show mt_m 12 268 = some (142, 4) by decide +kernel) (by decide) (rest := [.ref s7]) rfl (as := [.long s6, .long s5, .long (((s4 - 1) : Int32).toInt64)]) rfl ⟨Nat.le_of_ble_eq_true rfl, Nat.le_of_ble_eq_true rfl, Nat.le_of_ble_eq_true rfl⟩ h8
theorem b_191_56 {d : Nat} {Q : (Option Value ⊕ Nat) → mi_H → Prop} (n sl : Nat) (f : Nat → mi_C) {l1 : Nat} {l2 : Int32} {l3 : Int32} {s4 : Int32} {s5 : Nat} (h6 : ¬ s4 = (0 : Int32) → mi_W d 191 63 [some (.ref l1), some (.int l2), some (.int l3)] [.ref s5] (n, sl, f) Q) (h7 : ¬ (¬ s4 = (0 : Int32)) → mi_W d 191 59 [some (.ref l1), some (.int l2), some (.int l3)] [.ref s5] (n, sl, f) Q) : mi_W d 191 56 [some (.ref l1), some (.int l2), some (.int l3)] [.int s4, .ref s5] (n, sl, f) Q := by
  exact w_ifne cd_191_56 (by decide) h6 h7
theorem b_191_59 {d : Nat} {Q : (Option Value ⊕ Nat) → mi_H → Prop} (n sl : Nat) (f : Nat → mi_C) {l1 : Nat} {l2 : Int32} {l3 : Int32} {s4 : Nat} (h5 : mi_W d 191 64 [some (.ref l1), some (.int l2), some (.int l3)] [.int 1, .ref s4] (n, sl, f) Q) : mi_W d 191 59 [some (.ref l1), some (.int l2), some (.int l3)] [.ref s4] (n, sl, f) Q := by
  refine w_iconst (v := 1) cd_191_59 (by decide) ?_
  exact w_goto cd_191_60 (by decide) h5
theorem b_191_63 {d : Nat} {Q : (Option Value ⊕ Nat) → mi_H → Prop} (n sl : Nat) (f : Nat → mi_C) {l1 : Nat} {l2 : Int32} {l3 : Int32} {s4 : Nat} (h5 : mi_W d 191 64 [some (.ref l1), some (.int l2), some (.int l3)] [.int 0, .ref s4] (n, sl, f) Q) : mi_W d 191 63 [some (.ref l1), some (.int l2), some (.int l3)] [.ref s4] (n, sl, f) Q := by
  refine w_iconst (v := 0) cd_191_63 (by decide) ?_
  exact h5
theorem b_191_64 {d : Nat} {Q : (Option Value ⊕ Nat) → mi_H → Prop} (n sl : Nat) (f : Nat → mi_C) {l1 : Nat} {l2 : Int32} {l3 : Int32} {s4 : Int32} {s5 : Nat} {fs6 : List Value} (h7 : f s5 = .inr (12, fs6)) (h8 : s5 < n) (h9 : mi_W d 140 0 (mi_en 3 [.ref s5, .int s4, .int 2]) [] (n, sl, f) (mi_Kc d 191 65 [some (.ref l1), some (.int l2), some (.int l3)] [] Q)) : mi_W (d + 1) 191 64 [some (.ref l1), some (.int l2), some (.int l3)] [.int s4, .ref s5] (n, sl, f) Q := by
  refine w_iconst (v := 2) cd_191_64 (by decide) ?_
  exact w_invokevirtual cd_191_65 (show mt_m 12 254 = some (140, 0) by decide +kernel) (rest := []) rfl (as := [.ref s5, .int s4, .int 2]) rfl h7 (Or.inl h8) ⟨Nat.le_of_ble_eq_true rfl, Nat.le_of_ble_eq_true rfl, Nat.le_of_ble_eq_true rfl⟩ h9
theorem b_191_68 {d : Nat} {Q : (Option Value ⊕ Nat) → mi_H → Prop} (n sl : Nat) (f : Nat → mi_C) {l1 : Nat} {l2 : Int32} {l3 : Int32} {s4 : Int32} (h5 : s4 = (0 : Int32) → mi_W d 191 73 [some (.ref l1), some (.int l2), some (.int l3)] [] (n, sl, f) Q) (h6 : ¬ (s4 = (0 : Int32)) → mi_W d 191 71 [some (.ref l1), some (.int l2), some (.int l3)] [] (n, sl, f) Q) : mi_W d 191 68 [some (.ref l1), some (.int l2), some (.int l3)] [.int s4] (n, sl, f) Q := by
  exact w_ifeq cd_191_68 (by decide) h5 h6
theorem b_191_71 {d : Nat} {Q : (Option Value ⊕ Nat) → mi_H → Prop} (n sl : Nat) (f : Nat → mi_C) {l1 : Nat} {l2 : Int32} {l3 : Int32} (h4 : Q (.inl (some (.int 0))) (n, sl, f)) : mi_W d 191 71 [some (.ref l1), some (.int l2), some (.int l3)] [] (n, sl, f) Q := by
  refine w_iconst (v := 0) cd_191_71 (by decide) ?_
  exact w_ireturn_i cd_191_72 (by decide +kernel) h4
theorem b_191_73 {d : Nat} {Q : (Option Value ⊕ Nat) → mi_H → Prop} (n sl : Nat) (f : Nat → mi_C) {l1 : Nat} {l2 : Int32} {l3 : Int32} (h4 : ¬ l2 = (0 : Int32) → mi_W d 191 86 [some (.ref l1), some (.int l2), some (.int l3)] [] (n, sl, f) Q) (h5 : ¬ (¬ l2 = (0 : Int32)) → mi_W d 191 77 [some (.ref l1), some (.int l2), some (.int l3)] [] (n, sl, f) Q) : mi_W d 191 73 [some (.ref l1), some (.int l2), some (.int l3)] [] (n, sl, f) Q := by
  refine w_iload_n cd_191_73 rfl ?_
  exact w_ifne cd_191_74 (by decide) h4 h5
theorem b_191_77 {d : Nat} {Q : (Option Value ⊕ Nat) → mi_H → Prop} (n sl : Nat) (f : Nat → mi_C) {l1 : Nat} {l2 : Int32} {l3 : Int32} {fs4 : List Value} {x7 : Nat} (m9 i9 : Nat) (g9 : Nat → Int32) (h5 : f l1 = .inr (12, fs4)) (h6 : l1 < n) (h8 : fs4[67]? = some (.ref x7)) (h10 : f x7 = .inl (0, m9, .inl g9)) (h11 : x7 < n ∨ x7 = mi_SC) (h12 : mi_ix l3 m9 i9) (h13 : mi_W d 191 134 [some (.ref l1), some (.int l2), some (.int l3)] [.int (g9 i9)] (n, sl, f) Q) : mi_W d 191 77 [some (.ref l1), some (.int l2), some (.int l3)] [] (n, sl, f) Q := by
  refine w_aload_n cd_191_77 rfl ?_
  refine w_getfield cd_191_78 (show mt_f 12 193 = some (12, 67) by decide +kernel) h5 h6 h8 ?_
  refine w_iload_n cd_191_81 rfl ?_
  refine w_iaload cd_191_82 h10 h11 h12 ?_
  exact w_goto cd_191_83 (by decide) h13
theorem b_191_86 {d : Nat} {Q : (Option Value ⊕ Nat) → mi_H → Prop} (n sl : Nat) (f : Nat → mi_C) {l1 : Nat} {l2 : Int32} {l3 : Int32} (h4 : ¬ l2 = 1 → mi_W d 191 100 [some (.ref l1), some (.int l2), some (.int l3)] [] (n, sl, f) Q) (h5 : ¬ (¬ l2 = 1) → mi_W d 191 91 [some (.ref l1), some (.int l2), some (.int l3)] [] (n, sl, f) Q) : mi_W d 191 86 [some (.ref l1), some (.int l2), some (.int l3)] [] (n, sl, f) Q := by
  refine w_iload_n cd_191_86 rfl ?_
  refine w_iconst (v := 1) cd_191_87 (by decide) ?_
  exact w_if_icmpne cd_191_88 (by decide) h4 h5
theorem b_191_91 {d : Nat} {Q : (Option Value ⊕ Nat) → mi_H → Prop} (n sl : Nat) (f : Nat → mi_C) {l1 : Nat} {l2 : Int32} {l3 : Int32} {fs4 : List Value} {x7 : Nat} (m9 i9 : Nat) (g9 : Nat → Int32) (h5 : f l1 = .inr (12, fs4)) (h6 : l1 < n) (h8 : fs4[68]? = some (.ref x7)) (h10 : f x7 = .inl (0, m9, .inl g9)) (h11 : x7 < n ∨ x7 = mi_SC) (h12 : mi_ix l3 m9 i9) (h13 : mi_W d 191 134 [some (.ref l1), some (.int l2), some (.int l3)] [.int (g9 i9)] (n, sl, f) Q) : mi_W d 191 91 [some (.ref l1), some (.int l2), some (.int l3)] [] (n, sl, f) Q := by
  refine w_aload_n cd_191_91 rfl ?_
  refine w_getfield cd_191_92 (show mt_f 12 196 = some (12, 68) by decide +kernel) h5 h6 h8 ?_
  refine w_iload_n cd_191_95 rfl ?_
  refine w_iaload cd_191_96 h10 h11 h12 ?_
  exact w_goto cd_191_97 (by decide) h13
theorem b_191_100 {d : Nat} {Q : (Option Value ⊕ Nat) → mi_H → Prop} (n sl : Nat) (f : Nat → mi_C) {l1 : Nat} {l2 : Int32} {l3 : Int32} (h4 : ¬ l2 = 2 → mi_W d 191 114 [some (.ref l1), some (.int l2), some (.int l3)] [] (n, sl, f) Q) (h5 : ¬ (¬ l2 = 2) → mi_W d 191 105 [some (.ref l1), some (.int l2), some (.int l3)] [] (n, sl, f) Q) : mi_W d 191 100 [some (.ref l1), some (.int l2), some (.int l3)] [] (n, sl, f) Q := by
  refine w_iload_n cd_191_100 rfl ?_
  refine w_iconst (v := 2) cd_191_101 (by decide) ?_
  exact w_if_icmpne cd_191_102 (by decide) h4 h5
theorem b_191_105 {d : Nat} {Q : (Option Value ⊕ Nat) → mi_H → Prop} (n sl : Nat) (f : Nat → mi_C) {l1 : Nat} {l2 : Int32} {l3 : Int32} {fs4 : List Value} {x7 : Nat} (m9 i9 : Nat) (g9 : Nat → Int32) (h5 : f l1 = .inr (12, fs4)) (h6 : l1 < n) (h8 : fs4[69]? = some (.ref x7)) (h10 : f x7 = .inl (0, m9, .inl g9)) (h11 : x7 < n ∨ x7 = mi_SC) (h12 : mi_ix l3 m9 i9) (h13 : mi_W d 191 134 [some (.ref l1), some (.int l2), some (.int l3)] [.int (g9 i9)] (n, sl, f) Q) : mi_W d 191 105 [some (.ref l1), some (.int l2), some (.int l3)] [] (n, sl, f) Q := by
  refine w_aload_n cd_191_105 rfl ?_
  refine w_getfield cd_191_106 (show mt_f 12 199 = some (12, 69) by decide +kernel) h5 h6 h8 ?_
  refine w_iload_n cd_191_109 rfl ?_
  refine w_iaload cd_191_110 h10 h11 h12 ?_
  exact w_goto cd_191_111 (by decide) h13
theorem b_191_114 {d : Nat} {Q : (Option Value ⊕ Nat) → mi_H → Prop} (n sl : Nat) (f : Nat → mi_C) {l1 : Nat} {l2 : Int32} {l3 : Int32} (h4 : ¬ l2 = 3 → mi_W d 191 128 [some (.ref l1), some (.int l2), some (.int l3)] [] (n, sl, f) Q) (h5 : ¬ (¬ l2 = 3) → mi_W d 191 119 [some (.ref l1), some (.int l2), some (.int l3)] [] (n, sl, f) Q) : mi_W d 191 114 [some (.ref l1), some (.int l2), some (.int l3)] [] (n, sl, f) Q := by
  refine w_iload_n cd_191_114 rfl ?_
  refine w_iconst (v := 3) cd_191_115 (by decide) ?_
  exact w_if_icmpne cd_191_116 (by decide) h4 h5
theorem b_191_119 {d : Nat} {Q : (Option Value ⊕ Nat) → mi_H → Prop} (n sl : Nat) (f : Nat → mi_C) {l1 : Nat} {l2 : Int32} {l3 : Int32} {fs4 : List Value} {x7 : Nat} (m9 i9 : Nat) (g9 : Nat → Int32) (h5 : f l1 = .inr (12, fs4)) (h6 : l1 < n) (h8 : fs4[70]? = some (.ref x7)) (h10 : f x7 = .inl (0, m9, .inl g9)) (h11 : x7 < n ∨ x7 = mi_SC) (h12 : mi_ix l3 m9 i9) (h13 : mi_W d 191 134 [some (.ref l1), some (.int l2), some (.int l3)] [.int (g9 i9)] (n, sl, f) Q) : mi_W d 191 119 [some (.ref l1), some (.int l2), some (.int l3)] [] (n, sl, f) Q := by
  refine w_aload_n cd_191_119 rfl ?_
  refine w_getfield cd_191_120 (show mt_f 12 202 = some (12, 70) by decide +kernel) h5 h6 h8 ?_
  refine w_iload_n cd_191_123 rfl ?_
  refine w_iaload cd_191_124 h10 h11 h12 ?_
  exact w_goto cd_191_125 (by decide) h13
theorem b_191_128 {d : Nat} {Q : (Option Value ⊕ Nat) → mi_H → Prop} (n sl : Nat) (f : Nat → mi_C) {l1 : Nat} {l2 : Int32} {l3 : Int32} {fs4 : List Value} {x7 : Nat} (m9 i9 : Nat) (g9 : Nat → Int32) (h5 : f l1 = .inr (12, fs4)) (h6 : l1 < n) (h8 : fs4[71]? = some (.ref x7)) (h10 : f x7 = .inl (0, m9, .inl g9)) (h11 : x7 < n ∨ x7 = mi_SC) (h12 : mi_ix l3 m9 i9) (h13 : mi_W d 191 134 [some (.ref l1), some (.int l2), some (.int l3)] [.int (g9 i9)] (n, sl, f) Q) : mi_W d 191 128 [some (.ref l1), some (.int l2), some (.int l3)] [] (n, sl, f) Q := by
  refine w_aload_n cd_191_128 rfl ?_
  refine w_getfield cd_191_129 (show mt_f 12 205 = some (12, 71) by decide +kernel) h5 h6 h8 ?_
  refine w_iload_n cd_191_132 rfl ?_
  refine w_iaload cd_191_133 h10 h11 h12 ?_
  exact h13
theorem b_191_134 {d : Nat} {Q : (Option Value ⊕ Nat) → mi_H → Prop} (n sl : Nat) (f : Nat → mi_C) {l1 : Nat} {l2 : Int32} {l3 : Int32} {s4 : Int32} (h5 : Q (.inl (some (.int s4))) (n, sl, f)) : mi_W d 191 134 [some (.ref l1), some (.int l2), some (.int l3)] [.int s4] (n, sl, f) Q := by
  exact w_ireturn_i cd_191_134 (by decide +kernel) h5
/-! MarloweHostModel.paid(I)J -/
set_option maxRecDepth 100000 in
theorem mq_192 : mt_q 192 = my_192 := rfl
set_option maxRecDepth 100000 in
theorem ci_192 : mt_inc 0 my_192.cd = true := by decide +kernel
theorem cd_192_0 : mt_cd 192 0 = some (.aload_n 0) := mt_cd_of (q := (0, .aload_n 0, 1)) mq_192 ci_192 (List.mem_of_getElem? (i := 0) rfl)
theorem cd_192_1 : mt_cd 192 1 = some (.iconst 0) := mt_cd_of (q := (1, .iconst 0, 1)) mq_192 ci_192 (List.mem_of_getElem? (i := 1) rfl)
theorem cd_192_2 : mt_cd 192 2 = some (.putfield 248) := mt_cd_of (q := (2, .putfield 248, 3)) mq_192 ci_192 (List.mem_of_getElem? (i := 2) rfl)
theorem cd_192_5 : mt_cd 192 5 = some (.aload_n 0) := mt_cd_of (q := (5, .aload_n 0, 1)) mq_192 ci_192 (List.mem_of_getElem? (i := 3) rfl)
theorem cd_192_6 : mt_cd 192 6 = some (.iload_n 1) := mt_cd_of (q := (6, .iload_n 1, 1)) mq_192 ci_192 (List.mem_of_getElem? (i := 4) rfl)
theorem cd_192_7 : mt_cd 192 7 = some (.i2l) := mt_cd_of (q := (7, .i2l, 1)) mq_192 ci_192 (List.mem_of_getElem? (i := 5) rfl)
theorem cd_192_8 : mt_cd 192 8 = some (.lconst 0) := mt_cd_of (q := (8, .lconst 0, 1)) mq_192 ci_192 (List.mem_of_getElem? (i := 6) rfl)
theorem cd_192_9 : mt_cd 192 9 = some (.aload_n 0) := mt_cd_of (q := (9, .aload_n 0, 1)) mq_192 ci_192 (List.mem_of_getElem? (i := 7) rfl)
theorem cd_192_10 : mt_cd 192 10 = some (.getfield 539) := mt_cd_of (q := (10, .getfield 539, 3)) mq_192 ci_192 (List.mem_of_getElem? (i := 8) rfl)
theorem cd_192_13 : mt_cd 192 13 = some (.iconst 1) := mt_cd_of (q := (13, .iconst 1, 1)) mq_192 ci_192 (List.mem_of_getElem? (i := 9) rfl)
theorem cd_192_14 : mt_cd 192 14 = some (.isub) := mt_cd_of (q := (14, .isub, 1)) mq_192 ci_192 (List.mem_of_getElem? (i := 10) rfl)
theorem cd_192_15 : mt_cd 192 15 = some (.i2l) := mt_cd_of (q := (15, .i2l, 1)) mq_192 ci_192 (List.mem_of_getElem? (i := 11) rfl)
theorem cd_192_16 : mt_cd 192 16 = some (.invokestatic 268) := mt_cd_of (q := (16, .invokestatic 268, 3)) mq_192 ci_192 (List.mem_of_getElem? (i := 12) rfl)
theorem cd_192_19 : mt_cd 192 19 = some (.ifCond .ne 7) := mt_cd_of (q := (19, .ifCond .ne 7, 3)) mq_192 ci_192 (List.mem_of_getElem? (i := 13) rfl)
theorem cd_192_22 : mt_cd 192 22 = some (.iconst 1) := mt_cd_of (q := (22, .iconst 1, 1)) mq_192 ci_192 (List.mem_of_getElem? (i := 14) rfl)
theorem cd_192_23 : mt_cd 192 23 = some (.goto 4) := mt_cd_of (q := (23, .goto 4, 3)) mq_192 ci_192 (List.mem_of_getElem? (i := 15) rfl)
theorem cd_192_26 : mt_cd 192 26 = some (.iconst 0) := mt_cd_of (q := (26, .iconst 0, 1)) mq_192 ci_192 (List.mem_of_getElem? (i := 16) rfl)
theorem cd_192_27 : mt_cd 192 27 = some (.iconst 1) := mt_cd_of (q := (27, .iconst 1, 1)) mq_192 ci_192 (List.mem_of_getElem? (i := 17) rfl)
theorem cd_192_28 : mt_cd 192 28 = some (.invokevirtual 254) := mt_cd_of (q := (28, .invokevirtual 254, 3)) mq_192 ci_192 (List.mem_of_getElem? (i := 18) rfl)
theorem cd_192_31 : mt_cd 192 31 = some (.ifCond .eq 7) := mt_cd_of (q := (31, .ifCond .eq 7, 3)) mq_192 ci_192 (List.mem_of_getElem? (i := 19) rfl)
theorem cd_192_34 : mt_cd 192 34 = some (.lconst 0) := mt_cd_of (q := (34, .lconst 0, 1)) mq_192 ci_192 (List.mem_of_getElem? (i := 20) rfl)
theorem cd_192_35 : mt_cd 192 35 = some (.goto 9) := mt_cd_of (q := (35, .goto 9, 3)) mq_192 ci_192 (List.mem_of_getElem? (i := 21) rfl)
theorem cd_192_38 : mt_cd 192 38 = some (.aload_n 0) := mt_cd_of (q := (38, .aload_n 0, 1)) mq_192 ci_192 (List.mem_of_getElem? (i := 22) rfl)
theorem cd_192_39 : mt_cd 192 39 = some (.getfield 208) := mt_cd_of (q := (39, .getfield 208, 3)) mq_192 ci_192 (List.mem_of_getElem? (i := 23) rfl)
theorem cd_192_42 : mt_cd 192 42 = some (.iload_n 1) := mt_cd_of (q := (42, .iload_n 1, 1)) mq_192 ci_192 (List.mem_of_getElem? (i := 24) rfl)
theorem cd_192_43 : mt_cd 192 43 = some (.laload) := mt_cd_of (q := (43, .laload, 1)) mq_192 ci_192 (List.mem_of_getElem? (i := 25) rfl)
theorem cd_192_44 : mt_cd 192 44 = some (.lreturn) := mt_cd_of (q := (44, .lreturn, 1)) mq_192 ci_192 (List.mem_of_getElem? (i := 26) rfl)
theorem b_192_0 {d : Nat} {Q : (Option Value ⊕ Nat) → mi_H → Prop} (n sl : Nat) (f : Nat → mi_C) {l1 : Nat} {l2 : Int32} {fs3 : List Value} {fs7 : List Value} {x10 : Int32} (h4 : f l1 = .inr (12, fs3)) (h5 : l1 < n) (h6 : 0 < fs3.length) (h8 : (va_up f l1 (.inr (12, fs3.set 0 (.int 0)))) l1 = .inr (12, fs7)) (h9 : l1 < n) (h11 : fs7[66]? = some (.int x10)) (h12 : mi_W d 142 0 (mi_en 6 [.long ((l2 : Int32).toInt64), .long 0, .long (((x10 - 1) : Int32).toInt64)]) [] (n, sl, (va_up f l1 (.inr (12, fs3.set 0 (.int 0))))) (mi_Kc d 192 16 [some (.ref l1), some (.int l2)] [.ref l1] Q)) : mi_W (d + 1) 192 0 [some (.ref l1), some (.int l2)] [] (n, sl, f) Q := by
  refine w_aload_n cd_192_0 rfl ?_
  refine w_iconst (v := 0) cd_192_1 (by decide) ?_
  refine w_putfield (w := .int 0) cd_192_2 (show mt_f 12 248 = some (12, 0) by decide +kernel) h4 h5 ⟨h6, rfl, Or.inl (by decide)⟩ ?_
  refine w_aload_n cd_192_5 rfl ?_
  refine w_iload_n cd_192_6 rfl ?_
  refine w_i2l cd_192_7 ?_
  refine w_lconst (lv := 0) cd_192_8 (by decide) ?_
  refine w_aload_n cd_192_9 rfl ?_
  refine w_getfield cd_192_10 (show mt_f 12 539 = some (12, 66) by decide +kernel) h8 h9 h11 ?_
  refine w_iconst (v := 1) cd_192_13 (by decide) ?_
  refine w_isub cd_192_14 ?_
  refine w_i2l cd_192_15 ?_
  exact w_invokestatic cd_192_16 (show mt_m 12 268 = some (142, 4) by decide +kernel) (by decide) (rest := [.ref l1]) rfl (as := [.long ((l2 : Int32).toInt64), .long 0, .long (((x10 - 1) : Int32).toInt64)]) rfl ⟨Nat.le_of_ble_eq_true rfl, Nat.le_of_ble_eq_true rfl, Nat.le_of_ble_eq_true rfl⟩ h12
theorem b_192_19 {d : Nat} {Q : (Option Value ⊕ Nat) → mi_H → Prop} (n sl : Nat) (f : Nat → mi_C) {l1 : Nat} {l2 : Int32} {s3 : Int32} {s4 : Nat} (h5 : ¬ s3 = (0 : Int32) → mi_W d 192 26 [some (.ref l1), some (.int l2)] [.ref s4] (n, sl, f) Q) (h6 : ¬ (¬ s3 = (0 : Int32)) → mi_W d 192 22 [some (.ref l1), some (.int l2)] [.ref s4] (n, sl, f) Q) : mi_W d 192 19 [some (.ref l1), some (.int l2)] [.int s3, .ref s4] (n, sl, f) Q := by
  exact w_ifne cd_192_19 (by decide) h5 h6
theorem b_192_22 {d : Nat} {Q : (Option Value ⊕ Nat) → mi_H → Prop} (n sl : Nat) (f : Nat → mi_C) {l1 : Nat} {l2 : Int32} {s3 : Nat} (h4 : mi_W d 192 27 [some (.ref l1), some (.int l2)] [.int 1, .ref s3] (n, sl, f) Q) : mi_W d 192 22 [some (.ref l1), some (.int l2)] [.ref s3] (n, sl, f) Q := by
  refine w_iconst (v := 1) cd_192_22 (by decide) ?_
  exact w_goto cd_192_23 (by decide) h4
theorem b_192_26 {d : Nat} {Q : (Option Value ⊕ Nat) → mi_H → Prop} (n sl : Nat) (f : Nat → mi_C) {l1 : Nat} {l2 : Int32} {s3 : Nat} (h4 : mi_W d 192 27 [some (.ref l1), some (.int l2)] [.int 0, .ref s3] (n, sl, f) Q) : mi_W d 192 26 [some (.ref l1), some (.int l2)] [.ref s3] (n, sl, f) Q := by
  refine w_iconst (v := 0) cd_192_26 (by decide) ?_
  exact h4
theorem b_192_27 {d : Nat} {Q : (Option Value ⊕ Nat) → mi_H → Prop} (n sl : Nat) (f : Nat → mi_C) {l1 : Nat} {l2 : Int32} {s3 : Int32} {s4 : Nat} {fs5 : List Value} (h6 : f s4 = .inr (12, fs5)) (h7 : s4 < n) (h8 : mi_W d 140 0 (mi_en 3 [.ref s4, .int s3, .int 1]) [] (n, sl, f) (mi_Kc d 192 28 [some (.ref l1), some (.int l2)] [] Q)) : mi_W (d + 1) 192 27 [some (.ref l1), some (.int l2)] [.int s3, .ref s4] (n, sl, f) Q := by
  refine w_iconst (v := 1) cd_192_27 (by decide) ?_
  exact w_invokevirtual cd_192_28 (show mt_m 12 254 = some (140, 0) by decide +kernel) (rest := []) rfl (as := [.ref s4, .int s3, .int 1]) rfl h6 (Or.inl h7) ⟨Nat.le_of_ble_eq_true rfl, Nat.le_of_ble_eq_true rfl, Nat.le_of_ble_eq_true rfl⟩ h8
theorem b_192_31 {d : Nat} {Q : (Option Value ⊕ Nat) → mi_H → Prop} (n sl : Nat) (f : Nat → mi_C) {l1 : Nat} {l2 : Int32} {s3 : Int32} (h4 : s3 = (0 : Int32) → mi_W d 192 38 [some (.ref l1), some (.int l2)] [] (n, sl, f) Q) (h5 : ¬ (s3 = (0 : Int32)) → mi_W d 192 34 [some (.ref l1), some (.int l2)] [] (n, sl, f) Q) : mi_W d 192 31 [some (.ref l1), some (.int l2)] [.int s3] (n, sl, f) Q := by
  exact w_ifeq cd_192_31 (by decide) h4 h5
theorem b_192_34 {d : Nat} {Q : (Option Value ⊕ Nat) → mi_H → Prop} (n sl : Nat) (f : Nat → mi_C) {l1 : Nat} {l2 : Int32} (h3 : mi_W d 192 44 [some (.ref l1), some (.int l2)] [.long 0] (n, sl, f) Q) : mi_W d 192 34 [some (.ref l1), some (.int l2)] [] (n, sl, f) Q := by
  refine w_lconst (lv := 0) cd_192_34 (by decide) ?_
  exact w_goto cd_192_35 (by decide) h3
theorem b_192_38 {d : Nat} {Q : (Option Value ⊕ Nat) → mi_H → Prop} (n sl : Nat) (f : Nat → mi_C) {l1 : Nat} {l2 : Int32} {fs3 : List Value} {x6 : Nat} (m8 i8 : Nat) (g8 : Nat → Int64) (h4 : f l1 = .inr (12, fs3)) (h5 : l1 < n) (h7 : fs3[72]? = some (.ref x6)) (h9 : f x6 = .inl (3, m8, .inr (.inl g8))) (h10 : x6 < n) (h11 : mi_ix l2 m8 i8) (h12 : mi_W d 192 44 [some (.ref l1), some (.int l2)] [.long (g8 i8)] (n, sl, f) Q) : mi_W d 192 38 [some (.ref l1), some (.int l2)] [] (n, sl, f) Q := by
  refine w_aload_n cd_192_38 rfl ?_
  refine w_getfield cd_192_39 (show mt_f 12 208 = some (12, 72) by decide +kernel) h4 h5 h7 ?_
  refine w_iload_n cd_192_42 rfl ?_
  refine w_laload cd_192_43 h9 h10 h11 ?_
  exact h12
theorem b_192_44 {d : Nat} {Q : (Option Value ⊕ Nat) → mi_H → Prop} (n sl : Nat) (f : Nat → mi_C) {l1 : Nat} {l2 : Int32} {s3 : Int64} (h4 : Q (.inl (some (.long s3))) (n, sl, f)) : mi_W d 192 44 [some (.ref l1), some (.int l2)] [.long s3] (n, sl, f) Q := by
  exact w_lreturn cd_192_44 (by decide +kernel) h4
/-! MarloweHostModel.state(III)J -/
set_option maxRecDepth 100000 in
theorem mq_193 : mt_q 193 = my_193 := rfl
set_option maxRecDepth 100000 in
theorem ci_193 : mt_inc 0 my_193.cd = true := by decide +kernel
theorem cd_193_0 : mt_cd 193 0 = some (.aload_n 0) := mt_cd_of (q := (0, .aload_n 0, 1)) mq_193 ci_193 (List.mem_of_getElem? (i := 0) rfl)
theorem cd_193_1 : mt_cd 193 1 = some (.iconst 0) := mt_cd_of (q := (1, .iconst 0, 1)) mq_193 ci_193 (List.mem_of_getElem? (i := 1) rfl)
theorem cd_193_2 : mt_cd 193 2 = some (.putfield 248) := mt_cd_of (q := (2, .putfield 248, 3)) mq_193 ci_193 (List.mem_of_getElem? (i := 2) rfl)
theorem cd_193_5 : mt_cd 193 5 = some (.aload_n 0) := mt_cd_of (q := (5, .aload_n 0, 1)) mq_193 ci_193 (List.mem_of_getElem? (i := 3) rfl)
theorem cd_193_6 : mt_cd 193 6 = some (.iload_n 1) := mt_cd_of (q := (6, .iload_n 1, 1)) mq_193 ci_193 (List.mem_of_getElem? (i := 4) rfl)
theorem cd_193_7 : mt_cd 193 7 = some (.i2l) := mt_cd_of (q := (7, .i2l, 1)) mq_193 ci_193 (List.mem_of_getElem? (i := 5) rfl)
theorem cd_193_8 : mt_cd 193 8 = some (.lconst 0) := mt_cd_of (q := (8, .lconst 0, 1)) mq_193 ci_193 (List.mem_of_getElem? (i := 6) rfl)
theorem cd_193_9 : mt_cd 193 9 = some (.ldc2_w 552) := mt_cd_of (q := (9, .ldc2_w 552, 3)) mq_193 ci_193 (List.mem_of_getElem? (i := 7) rfl)
theorem cd_193_12 : mt_cd 193 12 = some (.invokestatic 268) := mt_cd_of (q := (12, .invokestatic 268, 3)) mq_193 ci_193 (List.mem_of_getElem? (i := 8) rfl)
theorem cd_193_15 : mt_cd 193 15 = some (.ifCond .eq 27) := mt_cd_of (q := (15, .ifCond .eq 27, 3)) mq_193 ci_193 (List.mem_of_getElem? (i := 9) rfl)
theorem cd_193_18 : mt_cd 193 18 = some (.iload_n 2) := mt_cd_of (q := (18, .iload_n 2, 1)) mq_193 ci_193 (List.mem_of_getElem? (i := 10) rfl)
theorem cd_193_19 : mt_cd 193 19 = some (.i2l) := mt_cd_of (q := (19, .i2l, 1)) mq_193 ci_193 (List.mem_of_getElem? (i := 11) rfl)
theorem cd_193_20 : mt_cd 193 20 = some (.lconst 0) := mt_cd_of (q := (20, .lconst 0, 1)) mq_193 ci_193 (List.mem_of_getElem? (i := 12) rfl)
theorem cd_193_21 : mt_cd 193 21 = some (.ldc2_w 542) := mt_cd_of (q := (21, .ldc2_w 542, 3)) mq_193 ci_193 (List.mem_of_getElem? (i := 13) rfl)
theorem cd_193_24 : mt_cd 193 24 = some (.invokestatic 268) := mt_cd_of (q := (24, .invokestatic 268, 3)) mq_193 ci_193 (List.mem_of_getElem? (i := 14) rfl)
theorem cd_193_27 : mt_cd 193 27 = some (.ifCond .eq 15) := mt_cd_of (q := (27, .ifCond .eq 15, 3)) mq_193 ci_193 (List.mem_of_getElem? (i := 15) rfl)
theorem cd_193_30 : mt_cd 193 30 = some (.iload_n 3) := mt_cd_of (q := (30, .iload_n 3, 1)) mq_193 ci_193 (List.mem_of_getElem? (i := 16) rfl)
theorem cd_193_31 : mt_cd 193 31 = some (.i2l) := mt_cd_of (q := (31, .i2l, 1)) mq_193 ci_193 (List.mem_of_getElem? (i := 17) rfl)
theorem cd_193_32 : mt_cd 193 32 = some (.lconst 0) := mt_cd_of (q := (32, .lconst 0, 1)) mq_193 ci_193 (List.mem_of_getElem? (i := 18) rfl)
theorem cd_193_33 : mt_cd 193 33 = some (.ldc2_w 544) := mt_cd_of (q := (33, .ldc2_w 544, 3)) mq_193 ci_193 (List.mem_of_getElem? (i := 19) rfl)
theorem cd_193_36 : mt_cd 193 36 = some (.invokestatic 268) := mt_cd_of (q := (36, .invokestatic 268, 3)) mq_193 ci_193 (List.mem_of_getElem? (i := 20) rfl)
theorem cd_193_39 : mt_cd 193 39 = some (.ifCond .ne 7) := mt_cd_of (q := (39, .ifCond .ne 7, 3)) mq_193 ci_193 (List.mem_of_getElem? (i := 21) rfl)
theorem cd_193_42 : mt_cd 193 42 = some (.iconst 1) := mt_cd_of (q := (42, .iconst 1, 1)) mq_193 ci_193 (List.mem_of_getElem? (i := 22) rfl)
theorem cd_193_43 : mt_cd 193 43 = some (.goto 4) := mt_cd_of (q := (43, .goto 4, 3)) mq_193 ci_193 (List.mem_of_getElem? (i := 23) rfl)
theorem cd_193_46 : mt_cd 193 46 = some (.iconst 0) := mt_cd_of (q := (46, .iconst 0, 1)) mq_193 ci_193 (List.mem_of_getElem? (i := 24) rfl)
theorem cd_193_47 : mt_cd 193 47 = some (.iconst 1) := mt_cd_of (q := (47, .iconst 1, 1)) mq_193 ci_193 (List.mem_of_getElem? (i := 25) rfl)
theorem cd_193_48 : mt_cd 193 48 = some (.invokevirtual 254) := mt_cd_of (q := (48, .invokevirtual 254, 3)) mq_193 ci_193 (List.mem_of_getElem? (i := 26) rfl)
theorem cd_193_51 : mt_cd 193 51 = some (.ifCond .ne 28) := mt_cd_of (q := (51, .ifCond .ne 28, 3)) mq_193 ci_193 (List.mem_of_getElem? (i := 27) rfl)
theorem cd_193_54 : mt_cd 193 54 = some (.aload_n 0) := mt_cd_of (q := (54, .aload_n 0, 1)) mq_193 ci_193 (List.mem_of_getElem? (i := 28) rfl)
theorem cd_193_55 : mt_cd 193 55 = some (.iload_n 1) := mt_cd_of (q := (55, .iload_n 1, 1)) mq_193 ci_193 (List.mem_of_getElem? (i := 29) rfl)
theorem cd_193_56 : mt_cd 193 56 = some (.iconst 1) := mt_cd_of (q := (56, .iconst 1, 1)) mq_193 ci_193 (List.mem_of_getElem? (i := 30) rfl)
theorem cd_193_57 : mt_cd 193 57 = some (.if_icmp .eq 14) := mt_cd_of (q := (57, .if_icmp .eq 14, 3)) mq_193 ci_193 (List.mem_of_getElem? (i := 31) rfl)
theorem cd_193_60 : mt_cd 193 60 = some (.aload_n 0) := mt_cd_of (q := (60, .aload_n 0, 1)) mq_193 ci_193 (List.mem_of_getElem? (i := 32) rfl)
theorem cd_193_61 : mt_cd 193 61 = some (.getfield 13) := mt_cd_of (q := (61, .getfield 13, 3)) mq_193 ci_193 (List.mem_of_getElem? (i := 33) rfl)
theorem cd_193_64 : mt_cd 193 64 = some (.ifCond .ge 7) := mt_cd_of (q := (64, .ifCond .ge 7, 3)) mq_193 ci_193 (List.mem_of_getElem? (i := 34) rfl)
theorem cd_193_67 : mt_cd 193 67 = some (.iconst 1) := mt_cd_of (q := (67, .iconst 1, 1)) mq_193 ci_193 (List.mem_of_getElem? (i := 35) rfl)
theorem cd_193_68 : mt_cd 193 68 = some (.goto 4) := mt_cd_of (q := (68, .goto 4, 3)) mq_193 ci_193 (List.mem_of_getElem? (i := 36) rfl)
theorem cd_193_71 : mt_cd 193 71 = some (.iconst 0) := mt_cd_of (q := (71, .iconst 0, 1)) mq_193 ci_193 (List.mem_of_getElem? (i := 37) rfl)
theorem cd_193_72 : mt_cd 193 72 = some (.iconst 2) := mt_cd_of (q := (72, .iconst 2, 1)) mq_193 ci_193 (List.mem_of_getElem? (i := 38) rfl)
theorem cd_193_73 : mt_cd 193 73 = some (.invokevirtual 254) := mt_cd_of (q := (73, .invokevirtual 254, 3)) mq_193 ci_193 (List.mem_of_getElem? (i := 39) rfl)
theorem cd_193_76 : mt_cd 193 76 = some (.ifCond .eq 5) := mt_cd_of (q := (76, .ifCond .eq 5, 3)) mq_193 ci_193 (List.mem_of_getElem? (i := 40) rfl)
theorem cd_193_79 : mt_cd 193 79 = some (.lconst 0) := mt_cd_of (q := (79, .lconst 0, 1)) mq_193 ci_193 (List.mem_of_getElem? (i := 41) rfl)
theorem cd_193_80 : mt_cd 193 80 = some (.lreturn) := mt_cd_of (q := (80, .lreturn, 1)) mq_193 ci_193 (List.mem_of_getElem? (i := 42) rfl)
theorem cd_193_81 : mt_cd 193 81 = some (.iload_n 1) := mt_cd_of (q := (81, .iload_n 1, 1)) mq_193 ci_193 (List.mem_of_getElem? (i := 43) rfl)
theorem cd_193_82 : mt_cd 193 82 = some (.tableswitch 107 0 3 #[30, 44, 55, 81]) := mt_cd_of (q := (82, .tableswitch 107 0 3 #[30, 44, 55, 81], 30)) mq_193 ci_193 (List.mem_of_getElem? (i := 44) rfl)
theorem cd_193_112 : mt_cd 193 112 = some (.aload_n 0) := mt_cd_of (q := (112, .aload_n 0, 1)) mq_193 ci_193 (List.mem_of_getElem? (i := 45) rfl)
theorem cd_193_113 : mt_cd 193 113 = some (.getfield 147) := mt_cd_of (q := (113, .getfield 147, 3)) mq_193 ci_193 (List.mem_of_getElem? (i := 46) rfl)
theorem cd_193_116 : mt_cd 193 116 = some (.getfield 448) := mt_cd_of (q := (116, .getfield 448, 3)) mq_193 ci_193 (List.mem_of_getElem? (i := 47) rfl)
theorem cd_193_119 : mt_cd 193 119 = some (.iconst 4) := mt_cd_of (q := (119, .iconst 4, 1)) mq_193 ci_193 (List.mem_of_getElem? (i := 48) rfl)
theorem cd_193_120 : mt_cd 193 120 = some (.iload_n 2) := mt_cd_of (q := (120, .iload_n 2, 1)) mq_193 ci_193 (List.mem_of_getElem? (i := 49) rfl)
theorem cd_193_121 : mt_cd 193 121 = some (.imul) := mt_cd_of (q := (121, .imul, 1)) mq_193 ci_193 (List.mem_of_getElem? (i := 50) rfl)
theorem cd_193_122 : mt_cd 193 122 = some (.iload_n 3) := mt_cd_of (q := (122, .iload_n 3, 1)) mq_193 ci_193 (List.mem_of_getElem? (i := 51) rfl)
theorem cd_193_123 : mt_cd 193 123 = some (.iadd) := mt_cd_of (q := (123, .iadd, 1)) mq_193 ci_193 (List.mem_of_getElem? (i := 52) rfl)
theorem cd_193_124 : mt_cd 193 124 = some (.laload) := mt_cd_of (q := (124, .laload, 1)) mq_193 ci_193 (List.mem_of_getElem? (i := 53) rfl)
theorem cd_193_125 : mt_cd 193 125 = some (.lreturn) := mt_cd_of (q := (125, .lreturn, 1)) mq_193 ci_193 (List.mem_of_getElem? (i := 54) rfl)
theorem cd_193_126 : mt_cd 193 126 = some (.aload_n 0) := mt_cd_of (q := (126, .aload_n 0, 1)) mq_193 ci_193 (List.mem_of_getElem? (i := 55) rfl)
theorem cd_193_127 : mt_cd 193 127 = some (.getfield 175) := mt_cd_of (q := (127, .getfield 175, 3)) mq_193 ci_193 (List.mem_of_getElem? (i := 56) rfl)
theorem cd_193_130 : mt_cd 193 130 = some (.iconst 4) := mt_cd_of (q := (130, .iconst 4, 1)) mq_193 ci_193 (List.mem_of_getElem? (i := 57) rfl)
theorem cd_193_131 : mt_cd 193 131 = some (.iload_n 2) := mt_cd_of (q := (131, .iload_n 2, 1)) mq_193 ci_193 (List.mem_of_getElem? (i := 58) rfl)
theorem cd_193_132 : mt_cd 193 132 = some (.imul) := mt_cd_of (q := (132, .imul, 1)) mq_193 ci_193 (List.mem_of_getElem? (i := 59) rfl)
theorem cd_193_133 : mt_cd 193 133 = some (.iload_n 3) := mt_cd_of (q := (133, .iload_n 3, 1)) mq_193 ci_193 (List.mem_of_getElem? (i := 60) rfl)
theorem cd_193_134 : mt_cd 193 134 = some (.iadd) := mt_cd_of (q := (134, .iadd, 1)) mq_193 ci_193 (List.mem_of_getElem? (i := 61) rfl)
theorem cd_193_135 : mt_cd 193 135 = some (.laload) := mt_cd_of (q := (135, .laload, 1)) mq_193 ci_193 (List.mem_of_getElem? (i := 62) rfl)
theorem cd_193_136 : mt_cd 193 136 = some (.lreturn) := mt_cd_of (q := (136, .lreturn, 1)) mq_193 ci_193 (List.mem_of_getElem? (i := 63) rfl)
theorem cd_193_137 : mt_cd 193 137 = some (.aload_n 0) := mt_cd_of (q := (137, .aload_n 0, 1)) mq_193 ci_193 (List.mem_of_getElem? (i := 64) rfl)
theorem cd_193_138 : mt_cd 193 138 = some (.getfield 147) := mt_cd_of (q := (138, .getfield 147, 3)) mq_193 ci_193 (List.mem_of_getElem? (i := 65) rfl)
theorem cd_193_141 : mt_cd 193 141 = some (.getfield 459) := mt_cd_of (q := (141, .getfield 459, 3)) mq_193 ci_193 (List.mem_of_getElem? (i := 66) rfl)
theorem cd_193_144 : mt_cd 193 144 = some (.iload_n 2) := mt_cd_of (q := (144, .iload_n 2, 1)) mq_193 ci_193 (List.mem_of_getElem? (i := 67) rfl)
theorem cd_193_145 : mt_cd 193 145 = some (.baload) := mt_cd_of (q := (145, .baload, 1)) mq_193 ci_193 (List.mem_of_getElem? (i := 68) rfl)
theorem cd_193_146 : mt_cd 193 146 = some (.ifCond .eq 15) := mt_cd_of (q := (146, .ifCond .eq 15, 3)) mq_193 ci_193 (List.mem_of_getElem? (i := 69) rfl)
theorem cd_193_149 : mt_cd 193 149 = some (.aload_n 0) := mt_cd_of (q := (149, .aload_n 0, 1)) mq_193 ci_193 (List.mem_of_getElem? (i := 70) rfl)
theorem cd_193_150 : mt_cd 193 150 = some (.getfield 147) := mt_cd_of (q := (150, .getfield 147, 3)) mq_193 ci_193 (List.mem_of_getElem? (i := 71) rfl)
theorem cd_193_153 : mt_cd 193 153 = some (.getfield 463) := mt_cd_of (q := (153, .getfield 463, 3)) mq_193 ci_193 (List.mem_of_getElem? (i := 72) rfl)
theorem cd_193_156 : mt_cd 193 156 = some (.iload_n 2) := mt_cd_of (q := (156, .iload_n 2, 1)) mq_193 ci_193 (List.mem_of_getElem? (i := 73) rfl)
theorem cd_193_157 : mt_cd 193 157 = some (.laload) := mt_cd_of (q := (157, .laload, 1)) mq_193 ci_193 (List.mem_of_getElem? (i := 74) rfl)
theorem cd_193_158 : mt_cd 193 158 = some (.goto 4) := mt_cd_of (q := (158, .goto 4, 3)) mq_193 ci_193 (List.mem_of_getElem? (i := 75) rfl)
theorem cd_193_161 : mt_cd 193 161 = some (.lconst 0) := mt_cd_of (q := (161, .lconst 0, 1)) mq_193 ci_193 (List.mem_of_getElem? (i := 76) rfl)
theorem cd_193_162 : mt_cd 193 162 = some (.lreturn) := mt_cd_of (q := (162, .lreturn, 1)) mq_193 ci_193 (List.mem_of_getElem? (i := 77) rfl)
theorem cd_193_163 : mt_cd 193 163 = some (.aload_n 0) := mt_cd_of (q := (163, .aload_n 0, 1)) mq_193 ci_193 (List.mem_of_getElem? (i := 78) rfl)
theorem cd_193_164 : mt_cd 193 164 = some (.getfield 147) := mt_cd_of (q := (164, .getfield 147, 3)) mq_193 ci_193 (List.mem_of_getElem? (i := 79) rfl)
theorem cd_193_167 : mt_cd 193 167 = some (.getfield 465) := mt_cd_of (q := (167, .getfield 465, 3)) mq_193 ci_193 (List.mem_of_getElem? (i := 80) rfl)
theorem cd_193_170 : mt_cd 193 170 = some (.iload_n 2) := mt_cd_of (q := (170, .iload_n 2, 1)) mq_193 ci_193 (List.mem_of_getElem? (i := 81) rfl)
theorem cd_193_171 : mt_cd 193 171 = some (.baload) := mt_cd_of (q := (171, .baload, 1)) mq_193 ci_193 (List.mem_of_getElem? (i := 82) rfl)
theorem cd_193_172 : mt_cd 193 172 = some (.ifCond .eq 15) := mt_cd_of (q := (172, .ifCond .eq 15, 3)) mq_193 ci_193 (List.mem_of_getElem? (i := 83) rfl)
theorem cd_193_175 : mt_cd 193 175 = some (.aload_n 0) := mt_cd_of (q := (175, .aload_n 0, 1)) mq_193 ci_193 (List.mem_of_getElem? (i := 84) rfl)
theorem cd_193_176 : mt_cd 193 176 = some (.getfield 147) := mt_cd_of (q := (176, .getfield 147, 3)) mq_193 ci_193 (List.mem_of_getElem? (i := 85) rfl)
theorem cd_193_179 : mt_cd 193 179 = some (.getfield 468) := mt_cd_of (q := (179, .getfield 468, 3)) mq_193 ci_193 (List.mem_of_getElem? (i := 86) rfl)
theorem cd_193_182 : mt_cd 193 182 = some (.iload_n 2) := mt_cd_of (q := (182, .iload_n 2, 1)) mq_193 ci_193 (List.mem_of_getElem? (i := 87) rfl)
theorem cd_193_183 : mt_cd 193 183 = some (.laload) := mt_cd_of (q := (183, .laload, 1)) mq_193 ci_193 (List.mem_of_getElem? (i := 88) rfl)
theorem cd_193_184 : mt_cd 193 184 = some (.goto 4) := mt_cd_of (q := (184, .goto 4, 3)) mq_193 ci_193 (List.mem_of_getElem? (i := 89) rfl)
theorem cd_193_187 : mt_cd 193 187 = some (.lconst 0) := mt_cd_of (q := (187, .lconst 0, 1)) mq_193 ci_193 (List.mem_of_getElem? (i := 90) rfl)
theorem cd_193_188 : mt_cd 193 188 = some (.lreturn) := mt_cd_of (q := (188, .lreturn, 1)) mq_193 ci_193 (List.mem_of_getElem? (i := 91) rfl)
theorem cd_193_189 : mt_cd 193 189 = some (.aload_n 0) := mt_cd_of (q := (189, .aload_n 0, 1)) mq_193 ci_193 (List.mem_of_getElem? (i := 92) rfl)
theorem cd_193_190 : mt_cd 193 190 = some (.getfield 147) := mt_cd_of (q := (190, .getfield 147, 3)) mq_193 ci_193 (List.mem_of_getElem? (i := 93) rfl)
theorem cd_193_193 : mt_cd 193 193 = some (.getfield 516) := mt_cd_of (q := (193, .getfield 516, 3)) mq_193 ci_193 (List.mem_of_getElem? (i := 94) rfl)
theorem cd_193_196 : mt_cd 193 196 = some (.lreturn) := mt_cd_of (q := (196, .lreturn, 1)) mq_193 ci_193 (List.mem_of_getElem? (i := 95) rfl)
theorem b_193_0 {d : Nat} {Q : (Option Value ⊕ Nat) → mi_H → Prop} (n sl : Nat) (f : Nat → mi_C) {l1 : Nat} {l2 : Int32} {l3 : Int32} {l4 : Int32} {fs5 : List Value} (h6 : f l1 = .inr (12, fs5)) (h7 : l1 < n) (h8 : 0 < fs5.length) (h9 : mi_W d 142 0 (mi_en 6 [.long ((l2 : Int32).toInt64), .long 0, .long 4]) [] (n, sl, (va_up f l1 (.inr (12, fs5.set 0 (.int 0))))) (mi_Kc d 193 12 [some (.ref l1), some (.int l2), some (.int l3), some (.int l4)] [.ref l1] Q)) : mi_W (d + 1) 193 0 [some (.ref l1), some (.int l2), some (.int l3), some (.int l4)] [] (n, sl, f) Q := by
  refine w_aload_n cd_193_0 rfl ?_
  refine w_iconst (v := 0) cd_193_1 (by decide) ?_
  refine w_putfield (w := .int 0) cd_193_2 (show mt_f 12 248 = some (12, 0) by decide +kernel) h6 h7 ⟨h8, rfl, Or.inl (by decide)⟩ ?_
  refine w_aload_n cd_193_5 rfl ?_
  refine w_iload_n cd_193_6 rfl ?_
  refine w_i2l cd_193_7 ?_
  refine w_lconst (lv := 0) cd_193_8 (by decide) ?_
  refine w_ldc2_w (lv := 4) cd_193_9 (by decide +kernel) ?_
  exact w_invokestatic cd_193_12 (show mt_m 12 268 = some (142, 4) by decide +kernel) (by decide) (rest := [.ref l1]) rfl (as := [.long ((l2 : Int32).toInt64), .long 0, .long 4]) rfl ⟨Nat.le_of_ble_eq_true rfl, Nat.le_of_ble_eq_true rfl, Nat.le_of_ble_eq_true rfl⟩ h9
theorem b_193_15 {d : Nat} {Q : (Option Value ⊕ Nat) → mi_H → Prop} (n sl : Nat) (f : Nat → mi_C) {l1 : Nat} {l2 : Int32} {l3 : Int32} {l4 : Int32} {s5 : Int32} {s6 : Nat} (h7 : s5 = (0 : Int32) → mi_W d 193 42 [some (.ref l1), some (.int l2), some (.int l3), some (.int l4)] [.ref s6] (n, sl, f) Q) (h8 : ¬ (s5 = (0 : Int32)) → mi_W d 193 18 [some (.ref l1), some (.int l2), some (.int l3), some (.int l4)] [.ref s6] (n, sl, f) Q) : mi_W d 193 15 [some (.ref l1), some (.int l2), some (.int l3), some (.int l4)] [.int s5, .ref s6] (n, sl, f) Q := by
  exact w_ifeq cd_193_15 (by decide) h7 h8
theorem b_193_18 {d : Nat} {Q : (Option Value ⊕ Nat) → mi_H → Prop} (n sl : Nat) (f : Nat → mi_C) {l1 : Nat} {l2 : Int32} {l3 : Int32} {l4 : Int32} {s5 : Nat} (h6 : mi_W d 142 0 (mi_en 6 [.long ((l3 : Int32).toInt64), .long 0, .long 7]) [] (n, sl, f) (mi_Kc d 193 24 [some (.ref l1), some (.int l2), some (.int l3), some (.int l4)] [.ref s5] Q)) : mi_W (d + 1) 193 18 [some (.ref l1), some (.int l2), some (.int l3), some (.int l4)] [.ref s5] (n, sl, f) Q := by
  refine w_iload_n cd_193_18 rfl ?_
  refine w_i2l cd_193_19 ?_
  refine w_lconst (lv := 0) cd_193_20 (by decide) ?_
  refine w_ldc2_w (lv := 7) cd_193_21 (by decide +kernel) ?_
  exact w_invokestatic cd_193_24 (show mt_m 12 268 = some (142, 4) by decide +kernel) (by decide) (rest := [.ref s5]) rfl (as := [.long ((l3 : Int32).toInt64), .long 0, .long 7]) rfl ⟨Nat.le_of_ble_eq_true rfl, Nat.le_of_ble_eq_true rfl, Nat.le_of_ble_eq_true rfl⟩ h6
theorem b_193_27 {d : Nat} {Q : (Option Value ⊕ Nat) → mi_H → Prop} (n sl : Nat) (f : Nat → mi_C) {l1 : Nat} {l2 : Int32} {l3 : Int32} {l4 : Int32} {s5 : Int32} {s6 : Nat} (h7 : s5 = (0 : Int32) → mi_W d 193 42 [some (.ref l1), some (.int l2), some (.int l3), some (.int l4)] [.ref s6] (n, sl, f) Q) (h8 : ¬ (s5 = (0 : Int32)) → mi_W d 193 30 [some (.ref l1), some (.int l2), some (.int l3), some (.int l4)] [.ref s6] (n, sl, f) Q) : mi_W d 193 27 [some (.ref l1), some (.int l2), some (.int l3), some (.int l4)] [.int s5, .ref s6] (n, sl, f) Q := by
  exact w_ifeq cd_193_27 (by decide) h7 h8
theorem b_193_30 {d : Nat} {Q : (Option Value ⊕ Nat) → mi_H → Prop} (n sl : Nat) (f : Nat → mi_C) {l1 : Nat} {l2 : Int32} {l3 : Int32} {l4 : Int32} {s5 : Nat} (h6 : mi_W d 142 0 (mi_en 6 [.long ((l4 : Int32).toInt64), .long 0, .long 3]) [] (n, sl, f) (mi_Kc d 193 36 [some (.ref l1), some (.int l2), some (.int l3), some (.int l4)] [.ref s5] Q)) : mi_W (d + 1) 193 30 [some (.ref l1), some (.int l2), some (.int l3), some (.int l4)] [.ref s5] (n, sl, f) Q := by
  refine w_iload_n cd_193_30 rfl ?_
  refine w_i2l cd_193_31 ?_
  refine w_lconst (lv := 0) cd_193_32 (by decide) ?_
  refine w_ldc2_w (lv := 3) cd_193_33 (by decide +kernel) ?_
  exact w_invokestatic cd_193_36 (show mt_m 12 268 = some (142, 4) by decide +kernel) (by decide) (rest := [.ref s5]) rfl (as := [.long ((l4 : Int32).toInt64), .long 0, .long 3]) rfl ⟨Nat.le_of_ble_eq_true rfl, Nat.le_of_ble_eq_true rfl, Nat.le_of_ble_eq_true rfl⟩ h6
theorem b_193_39 {d : Nat} {Q : (Option Value ⊕ Nat) → mi_H → Prop} (n sl : Nat) (f : Nat → mi_C) {l1 : Nat} {l2 : Int32} {l3 : Int32} {l4 : Int32} {s5 : Int32} {s6 : Nat} (h7 : ¬ s5 = (0 : Int32) → mi_W d 193 46 [some (.ref l1), some (.int l2), some (.int l3), some (.int l4)] [.ref s6] (n, sl, f) Q) (h8 : ¬ (¬ s5 = (0 : Int32)) → mi_W d 193 42 [some (.ref l1), some (.int l2), some (.int l3), some (.int l4)] [.ref s6] (n, sl, f) Q) : mi_W d 193 39 [some (.ref l1), some (.int l2), some (.int l3), some (.int l4)] [.int s5, .ref s6] (n, sl, f) Q := by
  exact w_ifne cd_193_39 (by decide) h7 h8
theorem b_193_42 {d : Nat} {Q : (Option Value ⊕ Nat) → mi_H → Prop} (n sl : Nat) (f : Nat → mi_C) {l1 : Nat} {l2 : Int32} {l3 : Int32} {l4 : Int32} {s5 : Nat} (h6 : mi_W d 193 47 [some (.ref l1), some (.int l2), some (.int l3), some (.int l4)] [.int 1, .ref s5] (n, sl, f) Q) : mi_W d 193 42 [some (.ref l1), some (.int l2), some (.int l3), some (.int l4)] [.ref s5] (n, sl, f) Q := by
  refine w_iconst (v := 1) cd_193_42 (by decide) ?_
  exact w_goto cd_193_43 (by decide) h6
theorem b_193_46 {d : Nat} {Q : (Option Value ⊕ Nat) → mi_H → Prop} (n sl : Nat) (f : Nat → mi_C) {l1 : Nat} {l2 : Int32} {l3 : Int32} {l4 : Int32} {s5 : Nat} (h6 : mi_W d 193 47 [some (.ref l1), some (.int l2), some (.int l3), some (.int l4)] [.int 0, .ref s5] (n, sl, f) Q) : mi_W d 193 46 [some (.ref l1), some (.int l2), some (.int l3), some (.int l4)] [.ref s5] (n, sl, f) Q := by
  refine w_iconst (v := 0) cd_193_46 (by decide) ?_
  exact h6
theorem b_193_47 {d : Nat} {Q : (Option Value ⊕ Nat) → mi_H → Prop} (n sl : Nat) (f : Nat → mi_C) {l1 : Nat} {l2 : Int32} {l3 : Int32} {l4 : Int32} {s5 : Int32} {s6 : Nat} {fs7 : List Value} (h8 : f s6 = .inr (12, fs7)) (h9 : s6 < n) (h10 : mi_W d 140 0 (mi_en 3 [.ref s6, .int s5, .int 1]) [] (n, sl, f) (mi_Kc d 193 48 [some (.ref l1), some (.int l2), some (.int l3), some (.int l4)] [] Q)) : mi_W (d + 1) 193 47 [some (.ref l1), some (.int l2), some (.int l3), some (.int l4)] [.int s5, .ref s6] (n, sl, f) Q := by
  refine w_iconst (v := 1) cd_193_47 (by decide) ?_
  exact w_invokevirtual cd_193_48 (show mt_m 12 254 = some (140, 0) by decide +kernel) (rest := []) rfl (as := [.ref s6, .int s5, .int 1]) rfl h8 (Or.inl h9) ⟨Nat.le_of_ble_eq_true rfl, Nat.le_of_ble_eq_true rfl, Nat.le_of_ble_eq_true rfl⟩ h10
theorem b_193_51 {d : Nat} {Q : (Option Value ⊕ Nat) → mi_H → Prop} (n sl : Nat) (f : Nat → mi_C) {l1 : Nat} {l2 : Int32} {l3 : Int32} {l4 : Int32} {s5 : Int32} (h6 : ¬ s5 = (0 : Int32) → mi_W d 193 79 [some (.ref l1), some (.int l2), some (.int l3), some (.int l4)] [] (n, sl, f) Q) (h7 : ¬ (¬ s5 = (0 : Int32)) → mi_W d 193 54 [some (.ref l1), some (.int l2), some (.int l3), some (.int l4)] [] (n, sl, f) Q) : mi_W d 193 51 [some (.ref l1), some (.int l2), some (.int l3), some (.int l4)] [.int s5] (n, sl, f) Q := by
  exact w_ifne cd_193_51 (by decide) h6 h7
theorem b_193_54 {d : Nat} {Q : (Option Value ⊕ Nat) → mi_H → Prop} (n sl : Nat) (f : Nat → mi_C) {l1 : Nat} {l2 : Int32} {l3 : Int32} {l4 : Int32} (h5 : l2 = 1 → mi_W d 193 71 [some (.ref l1), some (.int l2), some (.int l3), some (.int l4)] [.ref l1] (n, sl, f) Q) (h6 : ¬ (l2 = 1) → mi_W d 193 60 [some (.ref l1), some (.int l2), some (.int l3), some (.int l4)] [.ref l1] (n, sl, f) Q) : mi_W d 193 54 [some (.ref l1), some (.int l2), some (.int l3), some (.int l4)] [] (n, sl, f) Q := by
  refine w_aload_n cd_193_54 rfl ?_
  refine w_iload_n cd_193_55 rfl ?_
  refine w_iconst (v := 1) cd_193_56 (by decide) ?_
  exact w_if_icmpeq cd_193_57 (by decide) h5 h6
theorem b_193_60 {d : Nat} {Q : (Option Value ⊕ Nat) → mi_H → Prop} (n sl : Nat) (f : Nat → mi_C) {l1 : Nat} {l2 : Int32} {l3 : Int32} {l4 : Int32} {s5 : Nat} {fs6 : List Value} {x9 : Int32} (h7 : f l1 = .inr (12, fs6)) (h8 : l1 < n) (h10 : fs6[4]? = some (.int x9)) (h11 : (0 : Int32) ≤ x9 → mi_W d 193 71 [some (.ref l1), some (.int l2), some (.int l3), some (.int l4)] [.ref s5] (n, sl, f) Q) (h12 : ¬ ((0 : Int32) ≤ x9) → mi_W d 193 67 [some (.ref l1), some (.int l2), some (.int l3), some (.int l4)] [.ref s5] (n, sl, f) Q) : mi_W d 193 60 [some (.ref l1), some (.int l2), some (.int l3), some (.int l4)] [.ref s5] (n, sl, f) Q := by
  refine w_aload_n cd_193_60 rfl ?_
  refine w_getfield cd_193_61 (show mt_f 12 13 = some (12, 4) by decide +kernel) h7 h8 h10 ?_
  exact w_ifge cd_193_64 (by decide) h11 h12
theorem b_193_67 {d : Nat} {Q : (Option Value ⊕ Nat) → mi_H → Prop} (n sl : Nat) (f : Nat → mi_C) {l1 : Nat} {l2 : Int32} {l3 : Int32} {l4 : Int32} {s5 : Nat} (h6 : mi_W d 193 72 [some (.ref l1), some (.int l2), some (.int l3), some (.int l4)] [.int 1, .ref s5] (n, sl, f) Q) : mi_W d 193 67 [some (.ref l1), some (.int l2), some (.int l3), some (.int l4)] [.ref s5] (n, sl, f) Q := by
  refine w_iconst (v := 1) cd_193_67 (by decide) ?_
  exact w_goto cd_193_68 (by decide) h6
theorem b_193_71 {d : Nat} {Q : (Option Value ⊕ Nat) → mi_H → Prop} (n sl : Nat) (f : Nat → mi_C) {l1 : Nat} {l2 : Int32} {l3 : Int32} {l4 : Int32} {s5 : Nat} (h6 : mi_W d 193 72 [some (.ref l1), some (.int l2), some (.int l3), some (.int l4)] [.int 0, .ref s5] (n, sl, f) Q) : mi_W d 193 71 [some (.ref l1), some (.int l2), some (.int l3), some (.int l4)] [.ref s5] (n, sl, f) Q := by
  refine w_iconst (v := 0) cd_193_71 (by decide) ?_
  exact h6
theorem b_193_72 {d : Nat} {Q : (Option Value ⊕ Nat) → mi_H → Prop} (n sl : Nat) (f : Nat → mi_C) {l1 : Nat} {l2 : Int32} {l3 : Int32} {l4 : Int32} {s5 : Int32} {s6 : Nat} {fs7 : List Value} (h8 : f s6 = .inr (12, fs7)) (h9 : s6 < n) (h10 : mi_W d 140 0 (mi_en 3 [.ref s6, .int s5, .int 2]) [] (n, sl, f) (mi_Kc d 193 73 [some (.ref l1), some (.int l2), some (.int l3), some (.int l4)] [] Q)) : mi_W (d + 1) 193 72 [some (.ref l1), some (.int l2), some (.int l3), some (.int l4)] [.int s5, .ref s6] (n, sl, f) Q := by
  refine w_iconst (v := 2) cd_193_72 (by decide) ?_
  exact w_invokevirtual cd_193_73 (show mt_m 12 254 = some (140, 0) by decide +kernel) (rest := []) rfl (as := [.ref s6, .int s5, .int 2]) rfl h8 (Or.inl h9) ⟨Nat.le_of_ble_eq_true rfl, Nat.le_of_ble_eq_true rfl, Nat.le_of_ble_eq_true rfl⟩ h10
theorem b_193_76 {d : Nat} {Q : (Option Value ⊕ Nat) → mi_H → Prop} (n sl : Nat) (f : Nat → mi_C) {l1 : Nat} {l2 : Int32} {l3 : Int32} {l4 : Int32} {s5 : Int32} (h6 : s5 = (0 : Int32) → mi_W d 193 81 [some (.ref l1), some (.int l2), some (.int l3), some (.int l4)] [] (n, sl, f) Q) (h7 : ¬ (s5 = (0 : Int32)) → mi_W d 193 79 [some (.ref l1), some (.int l2), some (.int l3), some (.int l4)] [] (n, sl, f) Q) : mi_W d 193 76 [some (.ref l1), some (.int l2), some (.int l3), some (.int l4)] [.int s5] (n, sl, f) Q := by
  exact w_ifeq cd_193_76 (by decide) h6 h7
theorem b_193_79 {d : Nat} {Q : (Option Value ⊕ Nat) → mi_H → Prop} (n sl : Nat) (f : Nat → mi_C) {l1 : Nat} {l2 : Int32} {l3 : Int32} {l4 : Int32} (h5 : Q (.inl (some (.long 0))) (n, sl, f)) : mi_W d 193 79 [some (.ref l1), some (.int l2), some (.int l3), some (.int l4)] [] (n, sl, f) Q := by
  refine w_lconst (lv := 0) cd_193_79 (by decide) ?_
  exact w_lreturn cd_193_80 (by decide +kernel) h5
theorem b_193_81 {d : Nat} {Q : (Option Value ⊕ Nat) → mi_H → Prop} (n sl : Nat) (f : Nat → mi_C) {l1 : Nat} {l2 : Int32} {l3 : Int32} {l4 : Int32} {t5 : Nat} (h6 : mi_ts 82 107 0 3 #[30, 44, 55, 81] (l2 : Int32).toInt = some t5) (h7 : mi_W d 193 t5 [some (.ref l1), some (.int l2), some (.int l3), some (.int l4)] [] (n, sl, f) Q) : mi_W d 193 81 [some (.ref l1), some (.int l2), some (.int l3), some (.int l4)] [] (n, sl, f) Q := by
  refine w_iload_n cd_193_81 rfl ?_
  exact w_tableswitch cd_193_82 h6 h7
theorem b_193_112 {d : Nat} {Q : (Option Value ⊕ Nat) → mi_H → Prop} (n sl : Nat) (f : Nat → mi_C) {l1 : Nat} {l2 : Int32} {l3 : Int32} {l4 : Int32} {fs5 : List Value} {x8 : Nat} {fs10 : List Value} {x13 : Nat} (m15 i15 : Nat) (g15 : Nat → Int64) (h6 : f l1 = .inr (12, fs5)) (h7 : l1 < n) (h9 : fs5[41]? = some (.ref x8)) (h11 : f x8 = .inr (13, fs10)) (h12 : x8 < n) (h14 : fs10[2]? = some (.ref x13)) (h16 : f x13 = .inl (3, m15, .inr (.inl g15))) (h17 : x13 < n) (h18 : mi_ix ((4 * l3) + l4) m15 i15) (h19 : Q (.inl (some (.long (g15 i15)))) (n, sl, f)) : mi_W d 193 112 [some (.ref l1), some (.int l2), some (.int l3), some (.int l4)] [] (n, sl, f) Q := by
  refine w_aload_n cd_193_112 rfl ?_
  refine w_getfield cd_193_113 (show mt_f 12 147 = some (12, 41) by decide +kernel) h6 h7 h9 ?_
  refine w_getfield cd_193_116 (show mt_f 12 448 = some (13, 2) by decide +kernel) h11 h12 h14 ?_
  refine w_iconst (v := 4) cd_193_119 (by decide) ?_
  refine w_iload_n cd_193_120 rfl ?_
  refine w_imul cd_193_121 ?_
  refine w_iload_n cd_193_122 rfl ?_
  refine w_iadd cd_193_123 ?_
  refine w_laload cd_193_124 h16 h17 h18 ?_
  exact w_lreturn cd_193_125 (by decide +kernel) h19
theorem b_193_126 {d : Nat} {Q : (Option Value ⊕ Nat) → mi_H → Prop} (n sl : Nat) (f : Nat → mi_C) {l1 : Nat} {l2 : Int32} {l3 : Int32} {l4 : Int32} {fs5 : List Value} {x8 : Nat} (m10 i10 : Nat) (g10 : Nat → Int64) (h6 : f l1 = .inr (12, fs5)) (h7 : l1 < n) (h9 : fs5[56]? = some (.ref x8)) (h11 : f x8 = .inl (3, m10, .inr (.inl g10))) (h12 : x8 < n) (h13 : mi_ix ((4 * l3) + l4) m10 i10) (h14 : Q (.inl (some (.long (g10 i10)))) (n, sl, f)) : mi_W d 193 126 [some (.ref l1), some (.int l2), some (.int l3), some (.int l4)] [] (n, sl, f) Q := by
  refine w_aload_n cd_193_126 rfl ?_
  refine w_getfield cd_193_127 (show mt_f 12 175 = some (12, 56) by decide +kernel) h6 h7 h9 ?_
  refine w_iconst (v := 4) cd_193_130 (by decide) ?_
  refine w_iload_n cd_193_131 rfl ?_
  refine w_imul cd_193_132 ?_
  refine w_iload_n cd_193_133 rfl ?_
  refine w_iadd cd_193_134 ?_
  refine w_laload cd_193_135 h11 h12 h13 ?_
  exact w_lreturn cd_193_136 (by decide +kernel) h14
theorem b_193_137 {d : Nat} {Q : (Option Value ⊕ Nat) → mi_H → Prop} (n sl : Nat) (f : Nat → mi_C) {l1 : Nat} {l2 : Int32} {l3 : Int32} {l4 : Int32} {fs5 : List Value} {x8 : Nat} {fs10 : List Value} {x13 : Nat} (m15 i15 : Nat) (g15 : Nat → Int32) (h6 : f l1 = .inr (12, fs5)) (h7 : l1 < n) (h9 : fs5[41]? = some (.ref x8)) (h11 : f x8 = .inr (13, fs10)) (h12 : x8 < n) (h14 : fs10[5]? = some (.ref x13)) (h16 : f x13 = .inl (2, m15, .inl g15)) (h17 : x13 < n) (h18 : mi_ix l3 m15 i15) (h19 : (g15 i15) = (0 : Int32) → mi_W d 193 161 [some (.ref l1), some (.int l2), some (.int l3), some (.int l4)] [] (n, sl, f) Q) (h20 : ¬ ((g15 i15) = (0 : Int32)) → mi_W d 193 149 [some (.ref l1), some (.int l2), some (.int l3), some (.int l4)] [] (n, sl, f) Q) : mi_W d 193 137 [some (.ref l1), some (.int l2), some (.int l3), some (.int l4)] [] (n, sl, f) Q := by
  refine w_aload_n cd_193_137 rfl ?_
  refine w_getfield cd_193_138 (show mt_f 12 147 = some (12, 41) by decide +kernel) h6 h7 h9 ?_
  refine w_getfield cd_193_141 (show mt_f 12 459 = some (13, 5) by decide +kernel) h11 h12 h14 ?_
  refine w_iload_n cd_193_144 rfl ?_
  refine w_baload2 cd_193_145 h16 h17 h18 ?_
  exact w_ifeq cd_193_146 (by decide) h19 h20
theorem b_193_149 {d : Nat} {Q : (Option Value ⊕ Nat) → mi_H → Prop} (n sl : Nat) (f : Nat → mi_C) {l1 : Nat} {l2 : Int32} {l3 : Int32} {l4 : Int32} {fs5 : List Value} {x8 : Nat} {fs10 : List Value} {x13 : Nat} (m15 i15 : Nat) (g15 : Nat → Int64) (h6 : f l1 = .inr (12, fs5)) (h7 : l1 < n) (h9 : fs5[41]? = some (.ref x8)) (h11 : f x8 = .inr (13, fs10)) (h12 : x8 < n) (h14 : fs10[3]? = some (.ref x13)) (h16 : f x13 = .inl (3, m15, .inr (.inl g15))) (h17 : x13 < n) (h18 : mi_ix l3 m15 i15) (h19 : mi_W d 193 162 [some (.ref l1), some (.int l2), some (.int l3), some (.int l4)] [.long (g15 i15)] (n, sl, f) Q) : mi_W d 193 149 [some (.ref l1), some (.int l2), some (.int l3), some (.int l4)] [] (n, sl, f) Q := by
  refine w_aload_n cd_193_149 rfl ?_
  refine w_getfield cd_193_150 (show mt_f 12 147 = some (12, 41) by decide +kernel) h6 h7 h9 ?_
  refine w_getfield cd_193_153 (show mt_f 12 463 = some (13, 3) by decide +kernel) h11 h12 h14 ?_
  refine w_iload_n cd_193_156 rfl ?_
  refine w_laload cd_193_157 h16 h17 h18 ?_
  exact w_goto cd_193_158 (by decide) h19
theorem b_193_161 {d : Nat} {Q : (Option Value ⊕ Nat) → mi_H → Prop} (n sl : Nat) (f : Nat → mi_C) {l1 : Nat} {l2 : Int32} {l3 : Int32} {l4 : Int32} (h5 : mi_W d 193 162 [some (.ref l1), some (.int l2), some (.int l3), some (.int l4)] [.long 0] (n, sl, f) Q) : mi_W d 193 161 [some (.ref l1), some (.int l2), some (.int l3), some (.int l4)] [] (n, sl, f) Q := by
  refine w_lconst (lv := 0) cd_193_161 (by decide) ?_
  exact h5
theorem b_193_162 {d : Nat} {Q : (Option Value ⊕ Nat) → mi_H → Prop} (n sl : Nat) (f : Nat → mi_C) {l1 : Nat} {l2 : Int32} {l3 : Int32} {l4 : Int32} {s5 : Int64} (h6 : Q (.inl (some (.long s5))) (n, sl, f)) : mi_W d 193 162 [some (.ref l1), some (.int l2), some (.int l3), some (.int l4)] [.long s5] (n, sl, f) Q := by
  exact w_lreturn cd_193_162 (by decide +kernel) h6
theorem b_193_163 {d : Nat} {Q : (Option Value ⊕ Nat) → mi_H → Prop} (n sl : Nat) (f : Nat → mi_C) {l1 : Nat} {l2 : Int32} {l3 : Int32} {l4 : Int32} {fs5 : List Value} {x8 : Nat} {fs10 : List Value} {x13 : Nat} (m15 i15 : Nat) (g15 : Nat → Int32) (h6 : f l1 = .inr (12, fs5)) (h7 : l1 < n) (h9 : fs5[41]? = some (.ref x8)) (h11 : f x8 = .inr (13, fs10)) (h12 : x8 < n) (h14 : fs10[6]? = some (.ref x13)) (h16 : f x13 = .inl (2, m15, .inl g15)) (h17 : x13 < n) (h18 : mi_ix l3 m15 i15) (h19 : (g15 i15) = (0 : Int32) → mi_W d 193 187 [some (.ref l1), some (.int l2), some (.int l3), some (.int l4)] [] (n, sl, f) Q) (h20 : ¬ ((g15 i15) = (0 : Int32)) → mi_W d 193 175 [some (.ref l1), some (.int l2), some (.int l3), some (.int l4)] [] (n, sl, f) Q) : mi_W d 193 163 [some (.ref l1), some (.int l2), some (.int l3), some (.int l4)] [] (n, sl, f) Q := by
  refine w_aload_n cd_193_163 rfl ?_
  refine w_getfield cd_193_164 (show mt_f 12 147 = some (12, 41) by decide +kernel) h6 h7 h9 ?_
  refine w_getfield cd_193_167 (show mt_f 12 465 = some (13, 6) by decide +kernel) h11 h12 h14 ?_
  refine w_iload_n cd_193_170 rfl ?_
  refine w_baload2 cd_193_171 h16 h17 h18 ?_
  exact w_ifeq cd_193_172 (by decide) h19 h20
theorem b_193_175 {d : Nat} {Q : (Option Value ⊕ Nat) → mi_H → Prop} (n sl : Nat) (f : Nat → mi_C) {l1 : Nat} {l2 : Int32} {l3 : Int32} {l4 : Int32} {fs5 : List Value} {x8 : Nat} {fs10 : List Value} {x13 : Nat} (m15 i15 : Nat) (g15 : Nat → Int64) (h6 : f l1 = .inr (12, fs5)) (h7 : l1 < n) (h9 : fs5[41]? = some (.ref x8)) (h11 : f x8 = .inr (13, fs10)) (h12 : x8 < n) (h14 : fs10[4]? = some (.ref x13)) (h16 : f x13 = .inl (3, m15, .inr (.inl g15))) (h17 : x13 < n) (h18 : mi_ix l3 m15 i15) (h19 : mi_W d 193 188 [some (.ref l1), some (.int l2), some (.int l3), some (.int l4)] [.long (g15 i15)] (n, sl, f) Q) : mi_W d 193 175 [some (.ref l1), some (.int l2), some (.int l3), some (.int l4)] [] (n, sl, f) Q := by
  refine w_aload_n cd_193_175 rfl ?_
  refine w_getfield cd_193_176 (show mt_f 12 147 = some (12, 41) by decide +kernel) h6 h7 h9 ?_
  refine w_getfield cd_193_179 (show mt_f 12 468 = some (13, 4) by decide +kernel) h11 h12 h14 ?_
  refine w_iload_n cd_193_182 rfl ?_
  refine w_laload cd_193_183 h16 h17 h18 ?_
  exact w_goto cd_193_184 (by decide) h19
theorem b_193_187 {d : Nat} {Q : (Option Value ⊕ Nat) → mi_H → Prop} (n sl : Nat) (f : Nat → mi_C) {l1 : Nat} {l2 : Int32} {l3 : Int32} {l4 : Int32} (h5 : mi_W d 193 188 [some (.ref l1), some (.int l2), some (.int l3), some (.int l4)] [.long 0] (n, sl, f) Q) : mi_W d 193 187 [some (.ref l1), some (.int l2), some (.int l3), some (.int l4)] [] (n, sl, f) Q := by
  refine w_lconst (lv := 0) cd_193_187 (by decide) ?_
  exact h5
theorem b_193_188 {d : Nat} {Q : (Option Value ⊕ Nat) → mi_H → Prop} (n sl : Nat) (f : Nat → mi_C) {l1 : Nat} {l2 : Int32} {l3 : Int32} {l4 : Int32} {s5 : Int64} (h6 : Q (.inl (some (.long s5))) (n, sl, f)) : mi_W d 193 188 [some (.ref l1), some (.int l2), some (.int l3), some (.int l4)] [.long s5] (n, sl, f) Q := by
  exact w_lreturn cd_193_188 (by decide +kernel) h6
theorem b_193_189 {d : Nat} {Q : (Option Value ⊕ Nat) → mi_H → Prop} (n sl : Nat) (f : Nat → mi_C) {l1 : Nat} {l2 : Int32} {l3 : Int32} {l4 : Int32} {fs5 : List Value} {x8 : Nat} {fs10 : List Value} {x13 : Int64} (h6 : f l1 = .inr (12, fs5)) (h7 : l1 < n) (h9 : fs5[41]? = some (.ref x8)) (h11 : f x8 = .inr (13, fs10)) (h12 : x8 < n) (h14 : fs10[1]? = some (.long x13)) (h15 : Q (.inl (some (.long x13))) (n, sl, f)) : mi_W d 193 189 [some (.ref l1), some (.int l2), some (.int l3), some (.int l4)] [] (n, sl, f) Q := by
  refine w_aload_n cd_193_189 rfl ?_
  refine w_getfield cd_193_190 (show mt_f 12 147 = some (12, 41) by decide +kernel) h6 h7 h9 ?_
  refine w_getfield cd_193_193 (show mt_f 12 516 = some (13, 1) by decide +kernel) h11 h12 h14 ?_
  exact w_lreturn cd_193_196 (by decide +kernel) h15
/-! MarloweHostModel.analyse()I -/
set_option maxRecDepth 100000 in
theorem mq_194 : mt_q 194 = my_194 := rfl
set_option maxRecDepth 100000 in
theorem ci_194 : mt_inc 0 my_194.cd = true := by decide +kernel
theorem cd_194_0 : mt_cd 194 0 = some (.aload_n 0) := mt_cd_of (q := (0, .aload_n 0, 1)) mq_194 ci_194 (List.mem_append_left _ (show _ ∈ my_194_0 from List.mem_of_getElem? (i := 0) rfl))
theorem cd_194_1 : mt_cd 194 1 = some (.iconst 0) := mt_cd_of (q := (1, .iconst 0, 1)) mq_194 ci_194 (List.mem_append_left _ (show _ ∈ my_194_0 from List.mem_of_getElem? (i := 1) rfl))
theorem cd_194_2 : mt_cd 194 2 = some (.putfield 248) := mt_cd_of (q := (2, .putfield 248, 3)) mq_194 ci_194 (List.mem_append_left _ (show _ ∈ my_194_0 from List.mem_of_getElem? (i := 2) rfl))
theorem cd_194_5 : mt_cd 194 5 = some (.aload_n 0) := mt_cd_of (q := (5, .aload_n 0, 1)) mq_194 ci_194 (List.mem_append_left _ (show _ ∈ my_194_0 from List.mem_of_getElem? (i := 3) rfl))
theorem cd_194_6 : mt_cd 194 6 = some (.aload_n 0) := mt_cd_of (q := (6, .aload_n 0, 1)) mq_194 ci_194 (List.mem_append_left _ (show _ ∈ my_194_0 from List.mem_of_getElem? (i := 4) rfl))
theorem cd_194_7 : mt_cd 194 7 = some (.getfield 13) := mt_cd_of (q := (7, .getfield 13, 3)) mq_194 ci_194 (List.mem_append_left _ (show _ ∈ my_194_0 from List.mem_of_getElem? (i := 5) rfl))
theorem cd_194_10 : mt_cd 194 10 = some (.ifCond .ge 7) := mt_cd_of (q := (10, .ifCond .ge 7, 3)) mq_194 ci_194 (List.mem_append_left _ (show _ ∈ my_194_0 from List.mem_of_getElem? (i := 6) rfl))
theorem cd_194_13 : mt_cd 194 13 = some (.iconst 1) := mt_cd_of (q := (13, .iconst 1, 1)) mq_194 ci_194 (List.mem_append_left _ (show _ ∈ my_194_0 from List.mem_of_getElem? (i := 7) rfl))
theorem cd_194_14 : mt_cd 194 14 = some (.goto 4) := mt_cd_of (q := (14, .goto 4, 3)) mq_194 ci_194 (List.mem_append_left _ (show _ ∈ my_194_0 from List.mem_of_getElem? (i := 8) rfl))
theorem cd_194_17 : mt_cd 194 17 = some (.iconst 0) := mt_cd_of (q := (17, .iconst 0, 1)) mq_194 ci_194 (List.mem_append_left _ (show _ ∈ my_194_0 from List.mem_of_getElem? (i := 9) rfl))
theorem cd_194_18 : mt_cd 194 18 = some (.iconst 1) := mt_cd_of (q := (18, .iconst 1, 1)) mq_194 ci_194 (List.mem_append_left _ (show _ ∈ my_194_0 from List.mem_of_getElem? (i := 10) rfl))
theorem cd_194_19 : mt_cd 194 19 = some (.invokevirtual 254) := mt_cd_of (q := (19, .invokevirtual 254, 3)) mq_194 ci_194 (List.mem_append_left _ (show _ ∈ my_194_0 from List.mem_of_getElem? (i := 11) rfl))
theorem cd_194_22 : mt_cd 194 22 = some (.ifCond .eq 5) := mt_cd_of (q := (22, .ifCond .eq 5, 3)) mq_194 ci_194 (List.mem_append_left _ (show _ ∈ my_194_0 from List.mem_of_getElem? (i := 12) rfl))
theorem cd_194_25 : mt_cd 194 25 = some (.iconst 0) := mt_cd_of (q := (25, .iconst 0, 1)) mq_194 ci_194 (List.mem_append_left _ (show _ ∈ my_194_0 from List.mem_of_getElem? (i := 13) rfl))
theorem cd_194_26 : mt_cd 194 26 = some (.ireturn) := mt_cd_of (q := (26, .ireturn, 1)) mq_194 ci_194 (List.mem_append_left _ (show _ ∈ my_194_0 from List.mem_of_getElem? (i := 14) rfl))
theorem cd_194_27 : mt_cd 194 27 = some (.aload_n 0) := mt_cd_of (q := (27, .aload_n 0, 1)) mq_194 ci_194 (List.mem_append_left _ (show _ ∈ my_194_0 from List.mem_of_getElem? (i := 15) rfl))
theorem cd_194_28 : mt_cd 194 28 = some (.iconst 0) := mt_cd_of (q := (28, .iconst 0, 1)) mq_194 ci_194 (List.mem_append_left _ (show _ ∈ my_194_0 from List.mem_of_getElem? (i := 16) rfl))
theorem cd_194_29 : mt_cd 194 29 = some (.putfield 562) := mt_cd_of (q := (29, .putfield 562, 3)) mq_194 ci_194 (List.mem_append_left _ (show _ ∈ my_194_0 from List.mem_of_getElem? (i := 17) rfl))
theorem cd_194_32 : mt_cd 194 32 = some (.aload_n 0) := mt_cd_of (q := (32, .aload_n 0, 1)) mq_194 ci_194 (List.mem_append_left _ (show _ ∈ my_194_0 from List.mem_of_getElem? (i := 18) rfl))
theorem cd_194_33 : mt_cd 194 33 = some (.iconst 0) := mt_cd_of (q := (33, .iconst 0, 1)) mq_194 ci_194 (List.mem_append_left _ (show _ ∈ my_194_0 from List.mem_of_getElem? (i := 19) rfl))
theorem cd_194_34 : mt_cd 194 34 = some (.putfield 565) := mt_cd_of (q := (34, .putfield 565, 3)) mq_194 ci_194 (List.mem_append_left _ (show _ ∈ my_194_0 from List.mem_of_getElem? (i := 20) rfl))
theorem cd_194_37 : mt_cd 194 37 = some (.aload_n 0) := mt_cd_of (q := (37, .aload_n 0, 1)) mq_194 ci_194 (List.mem_append_left _ (show _ ∈ my_194_0 from List.mem_of_getElem? (i := 21) rfl))
theorem cd_194_38 : mt_cd 194 38 = some (.iconst 0) := mt_cd_of (q := (38, .iconst 0, 1)) mq_194 ci_194 (List.mem_append_left _ (show _ ∈ my_194_0 from List.mem_of_getElem? (i := 22) rfl))
theorem cd_194_39 : mt_cd 194 39 = some (.putfield 568) := mt_cd_of (q := (39, .putfield 568, 3)) mq_194 ci_194 (List.mem_append_left _ (show _ ∈ my_194_0 from List.mem_of_getElem? (i := 23) rfl))
theorem cd_194_42 : mt_cd 194 42 = some (.aload_n 0) := mt_cd_of (q := (42, .aload_n 0, 1)) mq_194 ci_194 (List.mem_append_left _ (show _ ∈ my_194_0 from List.mem_of_getElem? (i := 24) rfl))
theorem cd_194_43 : mt_cd 194 43 = some (.aload_n 0) := mt_cd_of (q := (43, .aload_n 0, 1)) mq_194 ci_194 (List.mem_append_left _ (show _ ∈ my_194_0 from List.mem_of_getElem? (i := 25) rfl))
theorem cd_194_44 : mt_cd 194 44 = some (.getfield 147) := mt_cd_of (q := (44, .getfield 147, 3)) mq_194 ci_194 (List.mem_append_left _ (show _ ∈ my_194_0 from List.mem_of_getElem? (i := 26) rfl))
theorem cd_194_47 : mt_cd 194 47 = some (.getfield 496) := mt_cd_of (q := (47, .getfield 496, 3)) mq_194 ci_194 (List.mem_append_left _ (show _ ∈ my_194_0 from List.mem_of_getElem? (i := 27) rfl))
theorem cd_194_50 : mt_cd 194 50 = some (.invokevirtual 557) := mt_cd_of (q := (50, .invokevirtual 557, 3)) mq_194 ci_194 (List.mem_append_left _ (show _ ∈ my_194_0 from List.mem_of_getElem? (i := 28) rfl))
theorem cd_194_53 : mt_cd 194 53 = some (.ifCond .eq 5) := mt_cd_of (q := (53, .ifCond .eq 5, 3)) mq_194 ci_194 (List.mem_append_left _ (show _ ∈ my_194_0 from List.mem_of_getElem? (i := 29) rfl))
theorem cd_194_56 : mt_cd 194 56 = some (.iconst 3) := mt_cd_of (q := (56, .iconst 3, 1)) mq_194 ci_194 (List.mem_append_left _ (show _ ∈ my_194_0 from List.mem_of_getElem? (i := 30) rfl))
theorem cd_194_57 : mt_cd 194 57 = some (.ireturn) := mt_cd_of (q := (57, .ireturn, 1)) mq_194 ci_194 (List.mem_append_left _ (show _ ∈ my_194_0 from List.mem_of_getElem? (i := 31) rfl))
theorem cd_194_58 : mt_cd 194 58 = some (.aload_n 0) := mt_cd_of (q := (58, .aload_n 0, 1)) mq_194 ci_194 (List.mem_append_left _ (show _ ∈ my_194_0 from List.mem_of_getElem? (i := 32) rfl))
theorem cd_194_59 : mt_cd 194 59 = some (.iconst 0) := mt_cd_of (q := (59, .iconst 0, 1)) mq_194 ci_194 (List.mem_append_left _ (show _ ∈ my_194_0 from List.mem_of_getElem? (i := 33) rfl))
theorem cd_194_60 : mt_cd 194 60 = some (.putfield 513) := mt_cd_of (q := (60, .putfield 513, 3)) mq_194 ci_194 (List.mem_append_left _ (show _ ∈ my_194_0 from List.mem_of_getElem? (i := 34) rfl))
theorem cd_194_63 : mt_cd 194 63 = some (.aload_n 0) := mt_cd_of (q := (63, .aload_n 0, 1)) mq_194 ci_194 (List.mem_append_left _ (show _ ∈ my_194_0 from List.mem_of_getElem? (i := 35) rfl))
theorem cd_194_64 : mt_cd 194 64 = some (.getfield 258) := mt_cd_of (q := (64, .getfield 258, 3)) mq_194 ci_194 (List.mem_append_left _ (show _ ∈ my_194_0 from List.mem_of_getElem? (i := 36) rfl))
theorem cd_194_67 : mt_cd 194 67 = some (.istore_n 1) := mt_cd_of (q := (67, .istore_n 1, 1)) mq_194 ci_194 (List.mem_append_left _ (show _ ∈ my_194_0 from List.mem_of_getElem? (i := 37) rfl))
theorem cd_194_68 : mt_cd 194 68 = some (.iconst 0) := mt_cd_of (q := (68, .iconst 0, 1)) mq_194 ci_194 (List.mem_append_left _ (show _ ∈ my_194_0 from List.mem_of_getElem? (i := 38) rfl))
theorem cd_194_69 : mt_cd 194 69 = some (.istore_n 2) := mt_cd_of (q := (69, .istore_n 2, 1)) mq_194 ci_194 (List.mem_append_left _ (show _ ∈ my_194_0 from List.mem_of_getElem? (i := 39) rfl))
theorem cd_194_70 : mt_cd 194 70 = some (.iload_n 2) := mt_cd_of (q := (70, .iload_n 2, 1)) mq_194 ci_194 (List.mem_append_left _ (show _ ∈ my_194_0 from List.mem_of_getElem? (i := 40) rfl))
theorem cd_194_71 : mt_cd 194 71 = some (.iload_n 1) := mt_cd_of (q := (71, .iload_n 1, 1)) mq_194 ci_194 (List.mem_append_left _ (show _ ∈ my_194_0 from List.mem_of_getElem? (i := 41) rfl))
theorem cd_194_72 : mt_cd 194 72 = some (.if_icmp .ge 69) := mt_cd_of (q := (72, .if_icmp .ge 69, 3)) mq_194 ci_194 (List.mem_append_left _ (show _ ∈ my_194_0 from List.mem_of_getElem? (i := 42) rfl))
theorem cd_194_75 : mt_cd 194 75 = some (.aload_n 0) := mt_cd_of (q := (75, .aload_n 0, 1)) mq_194 ci_194 (List.mem_append_left _ (show _ ∈ my_194_0 from List.mem_of_getElem? (i := 43) rfl))
theorem cd_194_76 : mt_cd 194 76 = some (.getfield 233) := mt_cd_of (q := (76, .getfield 233, 3)) mq_194 ci_194 (List.mem_append_left _ (show _ ∈ my_194_0 from List.mem_of_getElem? (i := 44) rfl))
theorem cd_194_79 : mt_cd 194 79 = some (.iload_n 2) := mt_cd_of (q := (79, .iload_n 2, 1)) mq_194 ci_194 (List.mem_append_left _ (show _ ∈ my_194_0 from List.mem_of_getElem? (i := 45) rfl))
theorem cd_194_80 : mt_cd 194 80 = some (.aload_n 0) := mt_cd_of (q := (80, .aload_n 0, 1)) mq_194 ci_194 (List.mem_append_left _ (show _ ∈ my_194_0 from List.mem_of_getElem? (i := 46) rfl))
theorem cd_194_81 : mt_cd 194 81 = some (.getfield 178) := mt_cd_of (q := (81, .getfield 178, 3)) mq_194 ci_194 (List.mem_append_left _ (show _ ∈ my_194_0 from List.mem_of_getElem? (i := 47) rfl))
theorem cd_194_84 : mt_cd 194 84 = some (.iload_n 2) := mt_cd_of (q := (84, .iload_n 2, 1)) mq_194 ci_194 (List.mem_append_left _ (show _ ∈ my_194_0 from List.mem_of_getElem? (i := 48) rfl))
theorem cd_194_85 : mt_cd 194 85 = some (.iaload) := mt_cd_of (q := (85, .iaload, 1)) mq_194 ci_194 (List.mem_append_left _ (show _ ∈ my_194_0 from List.mem_of_getElem? (i := 49) rfl))
theorem cd_194_86 : mt_cd 194 86 = some (.iastore) := mt_cd_of (q := (86, .iastore, 1)) mq_194 ci_194 (List.mem_append_left _ (show _ ∈ my_194_0 from List.mem_of_getElem? (i := 50) rfl))
theorem cd_194_87 : mt_cd 194 87 = some (.aload_n 0) := mt_cd_of (q := (87, .aload_n 0, 1)) mq_194 ci_194 (List.mem_append_left _ (show _ ∈ my_194_0 from List.mem_of_getElem? (i := 51) rfl))
theorem cd_194_88 : mt_cd 194 88 = some (.getfield 236) := mt_cd_of (q := (88, .getfield 236, 3)) mq_194 ci_194 (List.mem_append_left _ (show _ ∈ my_194_0 from List.mem_of_getElem? (i := 52) rfl))
theorem cd_194_91 : mt_cd 194 91 = some (.iload_n 2) := mt_cd_of (q := (91, .iload_n 2, 1)) mq_194 ci_194 (List.mem_append_left _ (show _ ∈ my_194_0 from List.mem_of_getElem? (i := 53) rfl))
theorem cd_194_92 : mt_cd 194 92 = some (.aload_n 0) := mt_cd_of (q := (92, .aload_n 0, 1)) mq_194 ci_194 (List.mem_append_left _ (show _ ∈ my_194_0 from List.mem_of_getElem? (i := 54) rfl))
theorem cd_194_93 : mt_cd 194 93 = some (.getfield 181) := mt_cd_of (q := (93, .getfield 181, 3)) mq_194 ci_194 (List.mem_append_left _ (show _ ∈ my_194_0 from List.mem_of_getElem? (i := 55) rfl))
theorem cd_194_96 : mt_cd 194 96 = some (.iload_n 2) := mt_cd_of (q := (96, .iload_n 2, 1)) mq_194 ci_194 (List.mem_append_left _ (show _ ∈ my_194_0 from List.mem_of_getElem? (i := 56) rfl))
theorem cd_194_97 : mt_cd 194 97 = some (.iaload) := mt_cd_of (q := (97, .iaload, 1)) mq_194 ci_194 (List.mem_append_left _ (show _ ∈ my_194_0 from List.mem_of_getElem? (i := 57) rfl))
theorem cd_194_98 : mt_cd 194 98 = some (.iastore) := mt_cd_of (q := (98, .iastore, 1)) mq_194 ci_194 (List.mem_append_left _ (show _ ∈ my_194_0 from List.mem_of_getElem? (i := 58) rfl))
theorem cd_194_99 : mt_cd 194 99 = some (.aload_n 0) := mt_cd_of (q := (99, .aload_n 0, 1)) mq_194 ci_194 (List.mem_append_left _ (show _ ∈ my_194_0 from List.mem_of_getElem? (i := 59) rfl))
theorem cd_194_100 : mt_cd 194 100 = some (.getfield 239) := mt_cd_of (q := (100, .getfield 239, 3)) mq_194 ci_194 (List.mem_append_right _ (List.mem_append_left _ (show _ ∈ my_194_1 from List.mem_of_getElem? (i := 0) rfl)))
theorem cd_194_103 : mt_cd 194 103 = some (.iload_n 2) := mt_cd_of (q := (103, .iload_n 2, 1)) mq_194 ci_194 (List.mem_append_right _ (List.mem_append_left _ (show _ ∈ my_194_1 from List.mem_of_getElem? (i := 1) rfl)))
theorem cd_194_104 : mt_cd 194 104 = some (.aload_n 0) := mt_cd_of (q := (104, .aload_n 0, 1)) mq_194 ci_194 (List.mem_append_right _ (List.mem_append_left _ (show _ ∈ my_194_1 from List.mem_of_getElem? (i := 2) rfl)))
theorem cd_194_105 : mt_cd 194 105 = some (.getfield 184) := mt_cd_of (q := (105, .getfield 184, 3)) mq_194 ci_194 (List.mem_append_right _ (List.mem_append_left _ (show _ ∈ my_194_1 from List.mem_of_getElem? (i := 3) rfl)))
theorem cd_194_108 : mt_cd 194 108 = some (.iload_n 2) := mt_cd_of (q := (108, .iload_n 2, 1)) mq_194 ci_194 (List.mem_append_right _ (List.mem_append_left _ (show _ ∈ my_194_1 from List.mem_of_getElem? (i := 4) rfl)))
theorem cd_194_109 : mt_cd 194 109 = some (.iaload) := mt_cd_of (q := (109, .iaload, 1)) mq_194 ci_194 (List.mem_append_right _ (List.mem_append_left _ (show _ ∈ my_194_1 from List.mem_of_getElem? (i := 5) rfl)))
theorem cd_194_110 : mt_cd 194 110 = some (.iastore) := mt_cd_of (q := (110, .iastore, 1)) mq_194 ci_194 (List.mem_append_right _ (List.mem_append_left _ (show _ ∈ my_194_1 from List.mem_of_getElem? (i := 6) rfl)))
theorem cd_194_111 : mt_cd 194 111 = some (.aload_n 0) := mt_cd_of (q := (111, .aload_n 0, 1)) mq_194 ci_194 (List.mem_append_right _ (List.mem_append_left _ (show _ ∈ my_194_1 from List.mem_of_getElem? (i := 7) rfl)))
theorem cd_194_112 : mt_cd 194 112 = some (.getfield 242) := mt_cd_of (q := (112, .getfield 242, 3)) mq_194 ci_194 (List.mem_append_right _ (List.mem_append_left _ (show _ ∈ my_194_1 from List.mem_of_getElem? (i := 8) rfl)))
theorem cd_194_115 : mt_cd 194 115 = some (.iload_n 2) := mt_cd_of (q := (115, .iload_n 2, 1)) mq_194 ci_194 (List.mem_append_right _ (List.mem_append_left _ (show _ ∈ my_194_1 from List.mem_of_getElem? (i := 9) rfl)))
theorem cd_194_116 : mt_cd 194 116 = some (.aload_n 0) := mt_cd_of (q := (116, .aload_n 0, 1)) mq_194 ci_194 (List.mem_append_right _ (List.mem_append_left _ (show _ ∈ my_194_1 from List.mem_of_getElem? (i := 10) rfl)))
theorem cd_194_117 : mt_cd 194 117 = some (.getfield 187) := mt_cd_of (q := (117, .getfield 187, 3)) mq_194 ci_194 (List.mem_append_right _ (List.mem_append_left _ (show _ ∈ my_194_1 from List.mem_of_getElem? (i := 11) rfl)))
theorem cd_194_120 : mt_cd 194 120 = some (.iload_n 2) := mt_cd_of (q := (120, .iload_n 2, 1)) mq_194 ci_194 (List.mem_append_right _ (List.mem_append_left _ (show _ ∈ my_194_1 from List.mem_of_getElem? (i := 12) rfl)))
theorem cd_194_121 : mt_cd 194 121 = some (.iaload) := mt_cd_of (q := (121, .iaload, 1)) mq_194 ci_194 (List.mem_append_right _ (List.mem_append_left _ (show _ ∈ my_194_1 from List.mem_of_getElem? (i := 13) rfl)))
theorem cd_194_122 : mt_cd 194 122 = some (.iastore) := mt_cd_of (q := (122, .iastore, 1)) mq_194 ci_194 (List.mem_append_right _ (List.mem_append_left _ (show _ ∈ my_194_1 from List.mem_of_getElem? (i := 14) rfl)))
theorem cd_194_123 : mt_cd 194 123 = some (.aload_n 0) := mt_cd_of (q := (123, .aload_n 0, 1)) mq_194 ci_194 (List.mem_append_right _ (List.mem_append_left _ (show _ ∈ my_194_1 from List.mem_of_getElem? (i := 15) rfl)))
theorem cd_194_124 : mt_cd 194 124 = some (.getfield 245) := mt_cd_of (q := (124, .getfield 245, 3)) mq_194 ci_194 (List.mem_append_right _ (List.mem_append_left _ (show _ ∈ my_194_1 from List.mem_of_getElem? (i := 16) rfl)))
theorem cd_194_127 : mt_cd 194 127 = some (.iload_n 2) := mt_cd_of (q := (127, .iload_n 2, 1)) mq_194 ci_194 (List.mem_append_right _ (List.mem_append_left _ (show _ ∈ my_194_1 from List.mem_of_getElem? (i := 17) rfl)))
theorem cd_194_128 : mt_cd 194 128 = some (.aload_n 0) := mt_cd_of (q := (128, .aload_n 0, 1)) mq_194 ci_194 (List.mem_append_right _ (List.mem_append_left _ (show _ ∈ my_194_1 from List.mem_of_getElem? (i := 18) rfl)))
theorem cd_194_129 : mt_cd 194 129 = some (.getfield 190) := mt_cd_of (q := (129, .getfield 190, 3)) mq_194 ci_194 (List.mem_append_right _ (List.mem_append_left _ (show _ ∈ my_194_1 from List.mem_of_getElem? (i := 19) rfl)))
theorem cd_194_132 : mt_cd 194 132 = some (.iload_n 2) := mt_cd_of (q := (132, .iload_n 2, 1)) mq_194 ci_194 (List.mem_append_right _ (List.mem_append_left _ (show _ ∈ my_194_1 from List.mem_of_getElem? (i := 20) rfl)))
theorem cd_194_133 : mt_cd 194 133 = some (.laload) := mt_cd_of (q := (133, .laload, 1)) mq_194 ci_194 (List.mem_append_right _ (List.mem_append_left _ (show _ ∈ my_194_1 from List.mem_of_getElem? (i := 21) rfl)))
theorem cd_194_134 : mt_cd 194 134 = some (.lastore) := mt_cd_of (q := (134, .lastore, 1)) mq_194 ci_194 (List.mem_append_right _ (List.mem_append_left _ (show _ ∈ my_194_1 from List.mem_of_getElem? (i := 22) rfl)))
theorem cd_194_135 : mt_cd 194 135 = some (.iinc 2 1) := mt_cd_of (q := (135, .iinc 2 1, 3)) mq_194 ci_194 (List.mem_append_right _ (List.mem_append_left _ (show _ ∈ my_194_1 from List.mem_of_getElem? (i := 23) rfl)))
theorem cd_194_138 : mt_cd 194 138 = some (.goto (-68)) := mt_cd_of (q := (138, .goto (-68), 3)) mq_194 ci_194 (List.mem_append_right _ (List.mem_append_left _ (show _ ∈ my_194_1 from List.mem_of_getElem? (i := 24) rfl)))
theorem cd_194_141 : mt_cd 194 141 = some (.aload_n 0) := mt_cd_of (q := (141, .aload_n 0, 1)) mq_194 ci_194 (List.mem_append_right _ (List.mem_append_left _ (show _ ∈ my_194_1 from List.mem_of_getElem? (i := 25) rfl)))
theorem cd_194_142 : mt_cd 194 142 = some (.aload_n 0) := mt_cd_of (q := (142, .aload_n 0, 1)) mq_194 ci_194 (List.mem_append_right _ (List.mem_append_left _ (show _ ∈ my_194_1 from List.mem_of_getElem? (i := 26) rfl)))
theorem cd_194_143 : mt_cd 194 143 = some (.getfield 147) := mt_cd_of (q := (143, .getfield 147, 3)) mq_194 ci_194 (List.mem_append_right _ (List.mem_append_left _ (show _ ∈ my_194_1 from List.mem_of_getElem? (i := 27) rfl)))
theorem cd_194_146 : mt_cd 194 146 = some (.invokevirtual 571) := mt_cd_of (q := (146, .invokevirtual 571, 3)) mq_194 ci_194 (List.mem_append_right _ (List.mem_append_left _ (show _ ∈ my_194_1 from List.mem_of_getElem? (i := 28) rfl)))
theorem cd_194_149 : mt_cd 194 149 = some (.istore_n 2) := mt_cd_of (q := (149, .istore_n 2, 1)) mq_194 ci_194 (List.mem_append_right _ (List.mem_append_left _ (show _ ∈ my_194_1 from List.mem_of_getElem? (i := 29) rfl)))
theorem cd_194_150 : mt_cd 194 150 = some (.aload_n 0) := mt_cd_of (q := (150, .aload_n 0, 1)) mq_194 ci_194 (List.mem_append_right _ (List.mem_append_left _ (show _ ∈ my_194_1 from List.mem_of_getElem? (i := 30) rfl)))
theorem cd_194_151 : mt_cd 194 151 = some (.iload_n 1) := mt_cd_of (q := (151, .iload_n 1, 1)) mq_194 ci_194 (List.mem_append_right _ (List.mem_append_left _ (show _ ∈ my_194_1 from List.mem_of_getElem? (i := 31) rfl)))
theorem cd_194_152 : mt_cd 194 152 = some (.putfield 258) := mt_cd_of (q := (152, .putfield 258, 3)) mq_194 ci_194 (List.mem_append_right _ (List.mem_append_left _ (show _ ∈ my_194_1 from List.mem_of_getElem? (i := 32) rfl)))
theorem cd_194_155 : mt_cd 194 155 = some (.iconst 0) := mt_cd_of (q := (155, .iconst 0, 1)) mq_194 ci_194 (List.mem_append_right _ (List.mem_append_left _ (show _ ∈ my_194_1 from List.mem_of_getElem? (i := 33) rfl)))
theorem cd_194_156 : mt_cd 194 156 = some (.istore_n 3) := mt_cd_of (q := (156, .istore_n 3, 1)) mq_194 ci_194 (List.mem_append_right _ (List.mem_append_left _ (show _ ∈ my_194_1 from List.mem_of_getElem? (i := 34) rfl)))
theorem cd_194_157 : mt_cd 194 157 = some (.iload_n 3) := mt_cd_of (q := (157, .iload_n 3, 1)) mq_194 ci_194 (List.mem_append_right _ (List.mem_append_left _ (show _ ∈ my_194_1 from List.mem_of_getElem? (i := 35) rfl)))
theorem cd_194_158 : mt_cd 194 158 = some (.iload_n 1) := mt_cd_of (q := (158, .iload_n 1, 1)) mq_194 ci_194 (List.mem_append_right _ (List.mem_append_left _ (show _ ∈ my_194_1 from List.mem_of_getElem? (i := 36) rfl)))
theorem cd_194_159 : mt_cd 194 159 = some (.if_icmp .ge 69) := mt_cd_of (q := (159, .if_icmp .ge 69, 3)) mq_194 ci_194 (List.mem_append_right _ (List.mem_append_left _ (show _ ∈ my_194_1 from List.mem_of_getElem? (i := 37) rfl)))
theorem cd_194_162 : mt_cd 194 162 = some (.aload_n 0) := mt_cd_of (q := (162, .aload_n 0, 1)) mq_194 ci_194 (List.mem_append_right _ (List.mem_append_left _ (show _ ∈ my_194_1 from List.mem_of_getElem? (i := 38) rfl)))
theorem cd_194_163 : mt_cd 194 163 = some (.getfield 178) := mt_cd_of (q := (163, .getfield 178, 3)) mq_194 ci_194 (List.mem_append_right _ (List.mem_append_left _ (show _ ∈ my_194_1 from List.mem_of_getElem? (i := 39) rfl)))
theorem cd_194_166 : mt_cd 194 166 = some (.iload_n 3) := mt_cd_of (q := (166, .iload_n 3, 1)) mq_194 ci_194 (List.mem_append_right _ (List.mem_append_left _ (show _ ∈ my_194_1 from List.mem_of_getElem? (i := 40) rfl)))
theorem cd_194_167 : mt_cd 194 167 = some (.aload_n 0) := mt_cd_of (q := (167, .aload_n 0, 1)) mq_194 ci_194 (List.mem_append_right _ (List.mem_append_left _ (show _ ∈ my_194_1 from List.mem_of_getElem? (i := 41) rfl)))
theorem cd_194_168 : mt_cd 194 168 = some (.getfield 233) := mt_cd_of (q := (168, .getfield 233, 3)) mq_194 ci_194 (List.mem_append_right _ (List.mem_append_left _ (show _ ∈ my_194_1 from List.mem_of_getElem? (i := 42) rfl)))
theorem cd_194_171 : mt_cd 194 171 = some (.iload_n 3) := mt_cd_of (q := (171, .iload_n 3, 1)) mq_194 ci_194 (List.mem_append_right _ (List.mem_append_left _ (show _ ∈ my_194_1 from List.mem_of_getElem? (i := 43) rfl)))
theorem cd_194_172 : mt_cd 194 172 = some (.iaload) := mt_cd_of (q := (172, .iaload, 1)) mq_194 ci_194 (List.mem_append_right _ (List.mem_append_left _ (show _ ∈ my_194_1 from List.mem_of_getElem? (i := 44) rfl)))
theorem cd_194_173 : mt_cd 194 173 = some (.iastore) := mt_cd_of (q := (173, .iastore, 1)) mq_194 ci_194 (List.mem_append_right _ (List.mem_append_left _ (show _ ∈ my_194_1 from List.mem_of_getElem? (i := 45) rfl)))
theorem cd_194_174 : mt_cd 194 174 = some (.aload_n 0) := mt_cd_of (q := (174, .aload_n 0, 1)) mq_194 ci_194 (List.mem_append_right _ (List.mem_append_left _ (show _ ∈ my_194_1 from List.mem_of_getElem? (i := 46) rfl)))
theorem cd_194_175 : mt_cd 194 175 = some (.getfield 181) := mt_cd_of (q := (175, .getfield 181, 3)) mq_194 ci_194 (List.mem_append_right _ (List.mem_append_left _ (show _ ∈ my_194_1 from List.mem_of_getElem? (i := 47) rfl)))
theorem cd_194_178 : mt_cd 194 178 = some (.iload_n 3) := mt_cd_of (q := (178, .iload_n 3, 1)) mq_194 ci_194 (List.mem_append_right _ (List.mem_append_left _ (show _ ∈ my_194_1 from List.mem_of_getElem? (i := 48) rfl)))
theorem cd_194_179 : mt_cd 194 179 = some (.aload_n 0) := mt_cd_of (q := (179, .aload_n 0, 1)) mq_194 ci_194 (List.mem_append_right _ (List.mem_append_left _ (show _ ∈ my_194_1 from List.mem_of_getElem? (i := 49) rfl)))
theorem cd_194_180 : mt_cd 194 180 = some (.getfield 236) := mt_cd_of (q := (180, .getfield 236, 3)) mq_194 ci_194 (List.mem_append_right _ (List.mem_append_left _ (show _ ∈ my_194_1 from List.mem_of_getElem? (i := 50) rfl)))
theorem cd_194_183 : mt_cd 194 183 = some (.iload_n 3) := mt_cd_of (q := (183, .iload_n 3, 1)) mq_194 ci_194 (List.mem_append_right _ (List.mem_append_left _ (show _ ∈ my_194_1 from List.mem_of_getElem? (i := 51) rfl)))
theorem cd_194_184 : mt_cd 194 184 = some (.iaload) := mt_cd_of (q := (184, .iaload, 1)) mq_194 ci_194 (List.mem_append_right _ (List.mem_append_left _ (show _ ∈ my_194_1 from List.mem_of_getElem? (i := 52) rfl)))
theorem cd_194_185 : mt_cd 194 185 = some (.iastore) := mt_cd_of (q := (185, .iastore, 1)) mq_194 ci_194 (List.mem_append_right _ (List.mem_append_left _ (show _ ∈ my_194_1 from List.mem_of_getElem? (i := 53) rfl)))
theorem cd_194_186 : mt_cd 194 186 = some (.aload_n 0) := mt_cd_of (q := (186, .aload_n 0, 1)) mq_194 ci_194 (List.mem_append_right _ (List.mem_append_left _ (show _ ∈ my_194_1 from List.mem_of_getElem? (i := 54) rfl)))
theorem cd_194_187 : mt_cd 194 187 = some (.getfield 184) := mt_cd_of (q := (187, .getfield 184, 3)) mq_194 ci_194 (List.mem_append_right _ (List.mem_append_left _ (show _ ∈ my_194_1 from List.mem_of_getElem? (i := 55) rfl)))
theorem cd_194_190 : mt_cd 194 190 = some (.iload_n 3) := mt_cd_of (q := (190, .iload_n 3, 1)) mq_194 ci_194 (List.mem_append_right _ (List.mem_append_left _ (show _ ∈ my_194_1 from List.mem_of_getElem? (i := 56) rfl)))
theorem cd_194_191 : mt_cd 194 191 = some (.aload_n 0) := mt_cd_of (q := (191, .aload_n 0, 1)) mq_194 ci_194 (List.mem_append_right _ (List.mem_append_left _ (show _ ∈ my_194_1 from List.mem_of_getElem? (i := 57) rfl)))
theorem cd_194_192 : mt_cd 194 192 = some (.getfield 239) := mt_cd_of (q := (192, .getfield 239, 3)) mq_194 ci_194 (List.mem_append_right _ (List.mem_append_left _ (show _ ∈ my_194_1 from List.mem_of_getElem? (i := 58) rfl)))
theorem cd_194_195 : mt_cd 194 195 = some (.iload_n 3) := mt_cd_of (q := (195, .iload_n 3, 1)) mq_194 ci_194 (List.mem_append_right _ (List.mem_append_left _ (show _ ∈ my_194_1 from List.mem_of_getElem? (i := 59) rfl)))
theorem cd_194_196 : mt_cd 194 196 = some (.iaload) := mt_cd_of (q := (196, .iaload, 1)) mq_194 ci_194 (List.mem_append_right _ (List.mem_append_right _ ((show _ ∈ my_194_2 from List.mem_of_getElem? (i := 0) rfl))))
theorem cd_194_197 : mt_cd 194 197 = some (.iastore) := mt_cd_of (q := (197, .iastore, 1)) mq_194 ci_194 (List.mem_append_right _ (List.mem_append_right _ ((show _ ∈ my_194_2 from List.mem_of_getElem? (i := 1) rfl))))
theorem cd_194_198 : mt_cd 194 198 = some (.aload_n 0) := mt_cd_of (q := (198, .aload_n 0, 1)) mq_194 ci_194 (List.mem_append_right _ (List.mem_append_right _ ((show _ ∈ my_194_2 from List.mem_of_getElem? (i := 2) rfl))))
theorem cd_194_199 : mt_cd 194 199 = some (.getfield 187) := mt_cd_of (q := (199, .getfield 187, 3)) mq_194 ci_194 (List.mem_append_right _ (List.mem_append_right _ ((show _ ∈ my_194_2 from List.mem_of_getElem? (i := 3) rfl))))
theorem cd_194_202 : mt_cd 194 202 = some (.iload_n 3) := mt_cd_of (q := (202, .iload_n 3, 1)) mq_194 ci_194 (List.mem_append_right _ (List.mem_append_right _ ((show _ ∈ my_194_2 from List.mem_of_getElem? (i := 4) rfl))))
theorem cd_194_203 : mt_cd 194 203 = some (.aload_n 0) := mt_cd_of (q := (203, .aload_n 0, 1)) mq_194 ci_194 (List.mem_append_right _ (List.mem_append_right _ ((show _ ∈ my_194_2 from List.mem_of_getElem? (i := 5) rfl))))
theorem cd_194_204 : mt_cd 194 204 = some (.getfield 242) := mt_cd_of (q := (204, .getfield 242, 3)) mq_194 ci_194 (List.mem_append_right _ (List.mem_append_right _ ((show _ ∈ my_194_2 from List.mem_of_getElem? (i := 6) rfl))))
theorem cd_194_207 : mt_cd 194 207 = some (.iload_n 3) := mt_cd_of (q := (207, .iload_n 3, 1)) mq_194 ci_194 (List.mem_append_right _ (List.mem_append_right _ ((show _ ∈ my_194_2 from List.mem_of_getElem? (i := 7) rfl))))
theorem cd_194_208 : mt_cd 194 208 = some (.iaload) := mt_cd_of (q := (208, .iaload, 1)) mq_194 ci_194 (List.mem_append_right _ (List.mem_append_right _ ((show _ ∈ my_194_2 from List.mem_of_getElem? (i := 8) rfl))))
theorem cd_194_209 : mt_cd 194 209 = some (.iastore) := mt_cd_of (q := (209, .iastore, 1)) mq_194 ci_194 (List.mem_append_right _ (List.mem_append_right _ ((show _ ∈ my_194_2 from List.mem_of_getElem? (i := 9) rfl))))
theorem cd_194_210 : mt_cd 194 210 = some (.aload_n 0) := mt_cd_of (q := (210, .aload_n 0, 1)) mq_194 ci_194 (List.mem_append_right _ (List.mem_append_right _ ((show _ ∈ my_194_2 from List.mem_of_getElem? (i := 10) rfl))))
theorem cd_194_211 : mt_cd 194 211 = some (.getfield 190) := mt_cd_of (q := (211, .getfield 190, 3)) mq_194 ci_194 (List.mem_append_right _ (List.mem_append_right _ ((show _ ∈ my_194_2 from List.mem_of_getElem? (i := 11) rfl))))
theorem cd_194_214 : mt_cd 194 214 = some (.iload_n 3) := mt_cd_of (q := (214, .iload_n 3, 1)) mq_194 ci_194 (List.mem_append_right _ (List.mem_append_right _ ((show _ ∈ my_194_2 from List.mem_of_getElem? (i := 12) rfl))))
theorem cd_194_215 : mt_cd 194 215 = some (.aload_n 0) := mt_cd_of (q := (215, .aload_n 0, 1)) mq_194 ci_194 (List.mem_append_right _ (List.mem_append_right _ ((show _ ∈ my_194_2 from List.mem_of_getElem? (i := 13) rfl))))
theorem cd_194_216 : mt_cd 194 216 = some (.getfield 245) := mt_cd_of (q := (216, .getfield 245, 3)) mq_194 ci_194 (List.mem_append_right _ (List.mem_append_right _ ((show _ ∈ my_194_2 from List.mem_of_getElem? (i := 14) rfl))))
theorem cd_194_219 : mt_cd 194 219 = some (.iload_n 3) := mt_cd_of (q := (219, .iload_n 3, 1)) mq_194 ci_194 (List.mem_append_right _ (List.mem_append_right _ ((show _ ∈ my_194_2 from List.mem_of_getElem? (i := 15) rfl))))
theorem cd_194_220 : mt_cd 194 220 = some (.laload) := mt_cd_of (q := (220, .laload, 1)) mq_194 ci_194 (List.mem_append_right _ (List.mem_append_right _ ((show _ ∈ my_194_2 from List.mem_of_getElem? (i := 16) rfl))))
theorem cd_194_221 : mt_cd 194 221 = some (.lastore) := mt_cd_of (q := (221, .lastore, 1)) mq_194 ci_194 (List.mem_append_right _ (List.mem_append_right _ ((show _ ∈ my_194_2 from List.mem_of_getElem? (i := 17) rfl))))
theorem cd_194_222 : mt_cd 194 222 = some (.iinc 3 1) := mt_cd_of (q := (222, .iinc 3 1, 3)) mq_194 ci_194 (List.mem_append_right _ (List.mem_append_right _ ((show _ ∈ my_194_2 from List.mem_of_getElem? (i := 18) rfl))))
theorem cd_194_225 : mt_cd 194 225 = some (.goto (-68)) := mt_cd_of (q := (225, .goto (-68), 3)) mq_194 ci_194 (List.mem_append_right _ (List.mem_append_right _ ((show _ ∈ my_194_2 from List.mem_of_getElem? (i := 19) rfl))))
theorem cd_194_228 : mt_cd 194 228 = some (.iload_n 2) := mt_cd_of (q := (228, .iload_n 2, 1)) mq_194 ci_194 (List.mem_append_right _ (List.mem_append_right _ ((show _ ∈ my_194_2 from List.mem_of_getElem? (i := 20) rfl))))
theorem cd_194_229 : mt_cd 194 229 = some (.ireturn) := mt_cd_of (q := (229, .ireturn, 1)) mq_194 ci_194 (List.mem_append_right _ (List.mem_append_right _ ((show _ ∈ my_194_2 from List.mem_of_getElem? (i := 21) rfl))))
theorem b_194_0 {d : Nat} {Q : (Option Value ⊕ Nat) → mi_H → Prop} (n sl : Nat) (f : Nat → mi_C) {l1 : Nat} {o2 : Option Value} {o3 : Option Value} {o4 : Option Value} {fs5 : List Value} {fs9 : List Value} {x12 : Int32} (h6 : f l1 = .inr (12, fs5)) (h7 : l1 < n) (h8 : 0 < fs5.length) (h10 : (va_up f l1 (.inr (12, fs5.set 0 (.int 0)))) l1 = .inr (12, fs9)) (h11 : l1 < n) (h13 : fs9[4]? = some (.int x12)) (h14 : (0 : Int32) ≤ x12 → mi_W d 194 17 [some (.ref l1), o2, o3, o4] [.ref l1] (n, sl, (va_up f l1 (.inr (12, fs5.set 0 (.int 0))))) Q) (h15 : ¬ ((0 : Int32) ≤ x12) → mi_W d 194 13 [some (.ref l1), o2, o3, o4] [.ref l1] (n, sl, (va_up f l1 (.inr (12, fs5.set 0 (.int 0))))) Q) : mi_W d 194 0 [some (.ref l1), o2, o3, o4] [] (n, sl, f) Q := by
  refine w_aload_n cd_194_0 rfl ?_
  refine w_iconst (v := 0) cd_194_1 (by decide) ?_
  refine w_putfield (w := .int 0) cd_194_2 (show mt_f 12 248 = some (12, 0) by decide +kernel) h6 h7 ⟨h8, rfl, Or.inl (by decide)⟩ ?_
  refine w_aload_n cd_194_5 rfl ?_
  refine w_aload_n cd_194_6 rfl ?_
  refine w_getfield cd_194_7 (show mt_f 12 13 = some (12, 4) by decide +kernel) h10 h11 h13 ?_
  exact w_ifge cd_194_10 (by decide) h14 h15
theorem b_194_13 {d : Nat} {Q : (Option Value ⊕ Nat) → mi_H → Prop} (n sl : Nat) (f : Nat → mi_C) {l1 : Nat} {o2 : Option Value} {o3 : Option Value} {o4 : Option Value} {s5 : Nat} (h6 : mi_W d 194 18 [some (.ref l1), o2, o3, o4] [.int 1, .ref s5] (n, sl, f) Q) : mi_W d 194 13 [some (.ref l1), o2, o3, o4] [.ref s5] (n, sl, f) Q := by
  refine w_iconst (v := 1) cd_194_13 (by decide) ?_
  exact w_goto cd_194_14 (by decide) h6
theorem b_194_17 {d : Nat} {Q : (Option Value ⊕ Nat) → mi_H → Prop} (n sl : Nat) (f : Nat → mi_C) {l1 : Nat} {o2 : Option Value} {o3 : Option Value} {o4 : Option Value} {s5 : Nat} (h6 : mi_W d 194 18 [some (.ref l1), o2, o3, o4] [.int 0, .ref s5] (n, sl, f) Q) : mi_W d 194 17 [some (.ref l1), o2, o3, o4] [.ref s5] (n, sl, f) Q := by
  refine w_iconst (v := 0) cd_194_17 (by decide) ?_
  exact h6
theorem b_194_18 {d : Nat} {Q : (Option Value ⊕ Nat) → mi_H → Prop} (n sl : Nat) (f : Nat → mi_C) {l1 : Nat} {o2 : Option Value} {o3 : Option Value} {o4 : Option Value} {s5 : Int32} {s6 : Nat} {fs7 : List Value} (h8 : f s6 = .inr (12, fs7)) (h9 : s6 < n) (h10 : mi_W d 140 0 (mi_en 3 [.ref s6, .int s5, .int 1]) [] (n, sl, f) (mi_Kc d 194 19 [some (.ref l1), o2, o3, o4] [] Q)) : mi_W (d + 1) 194 18 [some (.ref l1), o2, o3, o4] [.int s5, .ref s6] (n, sl, f) Q := by
  refine w_iconst (v := 1) cd_194_18 (by decide) ?_
  exact w_invokevirtual cd_194_19 (show mt_m 12 254 = some (140, 0) by decide +kernel) (rest := []) rfl (as := [.ref s6, .int s5, .int 1]) rfl h8 (Or.inl h9) ⟨Nat.le_of_ble_eq_true rfl, Nat.le_of_ble_eq_true rfl, Nat.le_of_ble_eq_true rfl⟩ h10
theorem b_194_22 {d : Nat} {Q : (Option Value ⊕ Nat) → mi_H → Prop} (n sl : Nat) (f : Nat → mi_C) {l1 : Nat} {o2 : Option Value} {o3 : Option Value} {o4 : Option Value} {s5 : Int32} (h6 : s5 = (0 : Int32) → mi_W d 194 27 [some (.ref l1), o2, o3, o4] [] (n, sl, f) Q) (h7 : ¬ (s5 = (0 : Int32)) → mi_W d 194 25 [some (.ref l1), o2, o3, o4] [] (n, sl, f) Q) : mi_W d 194 22 [some (.ref l1), o2, o3, o4] [.int s5] (n, sl, f) Q := by
  exact w_ifeq cd_194_22 (by decide) h6 h7
theorem b_194_25 {d : Nat} {Q : (Option Value ⊕ Nat) → mi_H → Prop} (n sl : Nat) (f : Nat → mi_C) {l1 : Nat} {o2 : Option Value} {o3 : Option Value} {o4 : Option Value} (h5 : Q (.inl (some (.int 0))) (n, sl, f)) : mi_W d 194 25 [some (.ref l1), o2, o3, o4] [] (n, sl, f) Q := by
  refine w_iconst (v := 0) cd_194_25 (by decide) ?_
  exact w_ireturn_i cd_194_26 (by decide +kernel) h5
theorem b_194_27 {d : Nat} {Q : (Option Value ⊕ Nat) → mi_H → Prop} (n sl : Nat) (f : Nat → mi_C) {l1 : Nat} {o2 : Option Value} {o3 : Option Value} {o4 : Option Value} {fs5 : List Value} {fs9 : List Value} {fs13 : List Value} {fs17 : List Value} {x20 : Nat} {fs22 : List Value} {x25 : Int32} {fs27 : List Value} (h6 : f l1 = .inr (12, fs5)) (h7 : l1 < n) (h8 : 73 < fs5.length) (h10 : (va_up f l1 (.inr (12, fs5.set 73 (.int 0)))) l1 = .inr (12, fs9)) (h11 : l1 < n) (h12 : 75 < fs9.length) (h14 : (va_up (va_up f l1 (.inr (12, fs5.set 73 (.int 0)))) l1 (.inr (12, fs9.set 75 (.int 0)))) l1 = .inr (12, fs13)) (h15 : l1 < n) (h16 : 74 < fs13.length) (h18 : (va_up (va_up (va_up f l1 (.inr (12, fs5.set 73 (.int 0)))) l1 (.inr (12, fs9.set 75 (.int 0)))) l1 (.inr (12, fs13.set 74 (.int 0)))) l1 = .inr (12, fs17)) (h19 : l1 < n) (h21 : fs17[41]? = some (.ref x20)) (h23 : (va_up (va_up (va_up f l1 (.inr (12, fs5.set 73 (.int 0)))) l1 (.inr (12, fs9.set 75 (.int 0)))) l1 (.inr (12, fs13.set 74 (.int 0)))) x20 = .inr (13, fs22)) (h24 : x20 < n) (h26 : fs22[0]? = some (.int x25)) (h28 : (va_up (va_up (va_up f l1 (.inr (12, fs5.set 73 (.int 0)))) l1 (.inr (12, fs9.set 75 (.int 0)))) l1 (.inr (12, fs13.set 74 (.int 0)))) l1 = .inr (12, fs27)) (h29 : l1 < n) (h30 : mi_W d 195 0 (mi_en 6 [.ref l1, .int x25]) [] (n, sl, (va_up (va_up (va_up f l1 (.inr (12, fs5.set 73 (.int 0)))) l1 (.inr (12, fs9.set 75 (.int 0)))) l1 (.inr (12, fs13.set 74 (.int 0))))) (mi_Kc d 194 50 [some (.ref l1), o2, o3, o4] [] Q)) : mi_W (d + 1) 194 27 [some (.ref l1), o2, o3, o4] [] (n, sl, f) Q := by
  refine w_aload_n cd_194_27 rfl ?_
  refine w_iconst (v := 0) cd_194_28 (by decide) ?_
  refine w_putfield (w := .int 0) cd_194_29 (show mt_f 12 562 = some (12, 73) by decide +kernel) h6 h7 ⟨h8, rfl, Or.inl (by decide)⟩ ?_
  refine w_aload_n cd_194_32 rfl ?_
  refine w_iconst (v := 0) cd_194_33 (by decide) ?_
  refine w_putfield (w := .int 0) cd_194_34 (show mt_f 12 565 = some (12, 75) by decide +kernel) h10 h11 ⟨h12, rfl, Or.inl (by decide)⟩ ?_
  refine w_aload_n cd_194_37 rfl ?_
  refine w_iconst (v := 0) cd_194_38 (by decide) ?_
  refine w_putfield (w := .int 0) cd_194_39 (show mt_f 12 568 = some (12, 74) by decide +kernel) h14 h15 ⟨h16, rfl, Or.inl (by decide)⟩ ?_
  refine w_aload_n cd_194_42 rfl ?_
  refine w_aload_n cd_194_43 rfl ?_
  refine w_getfield cd_194_44 (show mt_f 12 147 = some (12, 41) by decide +kernel) h18 h19 h21 ?_
  refine w_getfield cd_194_47 (show mt_f 12 496 = some (13, 0) by decide +kernel) h23 h24 h26 ?_
  exact w_invokevirtual cd_194_50 (show mt_m 12 557 = some (195, 0) by decide +kernel) (rest := []) rfl (as := [.ref l1, .int x25]) rfl h28 (Or.inl h29) ⟨Nat.le_of_ble_eq_true rfl, Nat.le_of_ble_eq_true rfl, Nat.le_of_ble_eq_true rfl⟩ h30
theorem b_194_53 {d : Nat} {Q : (Option Value ⊕ Nat) → mi_H → Prop} (n sl : Nat) (f : Nat → mi_C) {l1 : Nat} {o2 : Option Value} {o3 : Option Value} {o4 : Option Value} {s5 : Int32} (h6 : s5 = (0 : Int32) → mi_W d 194 58 [some (.ref l1), o2, o3, o4] [] (n, sl, f) Q) (h7 : ¬ (s5 = (0 : Int32)) → mi_W d 194 56 [some (.ref l1), o2, o3, o4] [] (n, sl, f) Q) : mi_W d 194 53 [some (.ref l1), o2, o3, o4] [.int s5] (n, sl, f) Q := by
  exact w_ifeq cd_194_53 (by decide) h6 h7
theorem b_194_56 {d : Nat} {Q : (Option Value ⊕ Nat) → mi_H → Prop} (n sl : Nat) (f : Nat → mi_C) {l1 : Nat} {o2 : Option Value} {o3 : Option Value} {o4 : Option Value} (h5 : Q (.inl (some (.int 3))) (n, sl, f)) : mi_W d 194 56 [some (.ref l1), o2, o3, o4] [] (n, sl, f) Q := by
  refine w_iconst (v := 3) cd_194_56 (by decide) ?_
  exact w_ireturn_i cd_194_57 (by decide +kernel) h5
theorem b_194_58 {d : Nat} {Q : (Option Value ⊕ Nat) → mi_H → Prop} (n sl : Nat) (f : Nat → mi_C) {l1 : Nat} {o2 : Option Value} {o3 : Option Value} {o4 : Option Value} {fs5 : List Value} {fs10 : List Value} {x13 : Int32} (h6 : f l1 = .inr (12, fs5)) (h7 : l1 < n) (h8 : 57 < fs5.length) (h9 : mi_fk .boolean (.int 0) = true) (h11 : (va_up f l1 (.inr (12, fs5.set 57 (.int 0)))) l1 = .inr (12, fs10)) (h12 : l1 < n) (h14 : fs10[59]? = some (.int x13)) (h15 : mi_W d 194 70 [some (.ref l1), some (.int x13), some (.int 0), o4] [] (n, sl, (va_up f l1 (.inr (12, fs5.set 57 (.int 0))))) Q) : mi_W d 194 58 [some (.ref l1), o2, o3, o4] [] (n, sl, f) Q := by
  refine w_aload_n cd_194_58 rfl ?_
  refine w_iconst (v := 0) cd_194_59 (by decide) ?_
  refine w_putfield (w := .int 0) cd_194_60 (show mt_f 12 513 = some (12, 57) by decide +kernel) h6 h7 ⟨h8, h9, Or.inl (by decide)⟩ ?_
  refine w_aload_n cd_194_63 rfl ?_
  refine w_getfield cd_194_64 (show mt_f 12 258 = some (12, 59) by decide +kernel) h11 h12 h14 ?_
  refine w_istore_n (ls' := [some (.ref l1), some (.int x13), o3, o4]) cd_194_67 (Nat.le_of_ble_eq_true rfl) rfl ?_
  refine w_iconst (v := 0) cd_194_68 (by decide) ?_
  refine w_istore_n (ls' := [some (.ref l1), some (.int x13), some (.int 0), o4]) cd_194_69 (Nat.le_of_ble_eq_true rfl) rfl ?_
  exact h15
theorem b_194_70 {d : Nat} {Q : (Option Value ⊕ Nat) → mi_H → Prop} (n sl : Nat) (f : Nat → mi_C) {l1 : Nat} {l2 : Int32} {l3 : Int32} {o4 : Option Value} (h5 : l2 ≤ l3 → mi_W d 194 141 [some (.ref l1), some (.int l2), some (.int l3), o4] [] (n, sl, f) Q) (h6 : ¬ (l2 ≤ l3) → mi_W d 194 75 [some (.ref l1), some (.int l2), some (.int l3), o4] [] (n, sl, f) Q) : mi_W d 194 70 [some (.ref l1), some (.int l2), some (.int l3), o4] [] (n, sl, f) Q := by
  refine w_iload_n cd_194_70 rfl ?_
  refine w_iload_n cd_194_71 rfl ?_
  exact w_if_icmpge cd_194_72 (by decide) h5 h6
theorem b_194_75 {d : Nat} {Q : (Option Value ⊕ Nat) → mi_H → Prop} (n sl : Nat) (f : Nat → mi_C) {l1 : Nat} {l2 : Int32} {l3 : Int32} {o4 : Option Value} {fs5 : List Value} {x8 : Nat} {fs10 : List Value} {x13 : Nat} (m15 i15 : Nat) (g15 : Nat → Int32) (m19 i19 : Nat) (g19 : Nat → Int32) {fs23 : List Value} {x26 : Nat} {fs28 : List Value} {x31 : Nat} (m33 i33 : Nat) (g33 : Nat → Int32) (m37 i37 : Nat) (g37 : Nat → Int32) {fs41 : List Value} {x44 : Nat} {fs46 : List Value} {x49 : Nat} (m51 i51 : Nat) (g51 : Nat → Int32) (m55 i55 : Nat) (g55 : Nat → Int32) {fs59 : List Value} {x62 : Nat} {fs64 : List Value} {x67 : Nat} (m69 i69 : Nat) (g69 : Nat → Int32) (m73 i73 : Nat) (g73 : Nat → Int32) {fs77 : List Value} {x80 : Nat} {fs82 : List Value} {x85 : Nat} (m87 i87 : Nat) (g87 : Nat → Int64) (m91 i91 : Nat) (g91 : Nat → Int64) (h6 : f l1 = .inr (12, fs5)) (h7 : l1 < n) (h9 : fs5[83]? = some (.ref x8)) (h11 : f l1 = .inr (12, fs10)) (h12 : l1 < n) (h14 : fs10[60]? = some (.ref x13)) (h16 : f x13 = .inl (0, m15, .inl g15)) (h17 : x13 < n ∨ x13 = mi_SC) (h18 : mi_ix l3 m15 i15) (h20 : f x8 = .inl (0, m19, .inl g19)) (h21 : x8 < n) (h22 : mi_ix l3 m19 i19) (h24 : (va_up f x8 (.inl (0, m19, .inl (upd g19 i19 (g15 i15))))) l1 = .inr (12, fs23)) (h25 : l1 < n) (h27 : fs23[84]? = some (.ref x26)) (h29 : (va_up f x8 (.inl (0, m19, .inl (upd g19 i19 (g15 i15))))) l1 = .inr (12, fs28)) (h30 : l1 < n) (h32 : fs28[61]? = some (.ref x31)) (h34 : (va_up f x8 (.inl (0, m19, .inl (upd g19 i19 (g15 i15))))) x31 = .inl (0, m33, .inl g33)) (h35 : x31 < n ∨ x31 = mi_SC) (h36 : mi_ix l3 m33 i33) (h38 : (va_up f x8 (.inl (0, m19, .inl (upd g19 i19 (g15 i15))))) x26 = .inl (0, m37, .inl g37)) (h39 : x26 < n) (h40 : mi_ix l3 m37 i37) (h42 : (va_up (va_up f x8 (.inl (0, m19, .inl (upd g19 i19 (g15 i15))))) x26 (.inl (0, m37, .inl (upd g37 i37 (g33 i33))))) l1 = .inr (12, fs41)) (h43 : l1 < n) (h45 : fs41[85]? = some (.ref x44)) (h47 : (va_up (va_up f x8 (.inl (0, m19, .inl (upd g19 i19 (g15 i15))))) x26 (.inl (0, m37, .inl (upd g37 i37 (g33 i33))))) l1 = .inr (12, fs46)) (h48 : l1 < n) (h50 : fs46[62]? = some (.ref x49)) (h52 : (va_up (va_up f x8 (.inl (0, m19, .inl (upd g19 i19 (g15 i15))))) x26 (.inl (0, m37, .inl (upd g37 i37 (g33 i33))))) x49 = .inl (0, m51, .inl g51)) (h53 : x49 < n ∨ x49 = mi_SC) (h54 : mi_ix l3 m51 i51) (h56 : (va_up (va_up f x8 (.inl (0, m19, .inl (upd g19 i19 (g15 i15))))) x26 (.inl (0, m37, .inl (upd g37 i37 (g33 i33))))) x44 = .inl (0, m55, .inl g55)) (h57 : x44 < n) (h58 : mi_ix l3 m55 i55) (h60 : (va_up (va_up (va_up f x8 (.inl (0, m19, .inl (upd g19 i19 (g15 i15))))) x26 (.inl (0, m37, .inl (upd g37 i37 (g33 i33))))) x44 (.inl (0, m55, .inl (upd g55 i55 (g51 i51))))) l1 = .inr (12, fs59)) (h61 : l1 < n) (h63 : fs59[86]? = some (.ref x62)) (h65 : (va_up (va_up (va_up f x8 (.inl (0, m19, .inl (upd g19 i19 (g15 i15))))) x26 (.inl (0, m37, .inl (upd g37 i37 (g33 i33))))) x44 (.inl (0, m55, .inl (upd g55 i55 (g51 i51))))) l1 = .inr (12, fs64)) (h66 : l1 < n) (h68 : fs64[63]? = some (.ref x67)) (h70 : (va_up (va_up (va_up f x8 (.inl (0, m19, .inl (upd g19 i19 (g15 i15))))) x26 (.inl (0, m37, .inl (upd g37 i37 (g33 i33))))) x44 (.inl (0, m55, .inl (upd g55 i55 (g51 i51))))) x67 = .inl (0, m69, .inl g69)) (h71 : x67 < n ∨ x67 = mi_SC) (h72 : mi_ix l3 m69 i69) (h74 : (va_up (va_up (va_up f x8 (.inl (0, m19, .inl (upd g19 i19 (g15 i15))))) x26 (.inl (0, m37, .inl (upd g37 i37 (g33 i33))))) x44 (.inl (0, m55, .inl (upd g55 i55 (g51 i51))))) x62 = .inl (0, m73, .inl g73)) (h75 : x62 < n) (h76 : mi_ix l3 m73 i73) (h78 : (va_up (va_up (va_up (va_up f x8 (.inl (0, m19, .inl (upd g19 i19 (g15 i15))))) x26 (.inl (0, m37, .inl (upd g37 i37 (g33 i33))))) x44 (.inl (0, m55, .inl (upd g55 i55 (g51 i51))))) x62 (.inl (0, m73, .inl (upd g73 i73 (g69 i69))))) l1 = .inr (12, fs77)) (h79 : l1 < n) (h81 : fs77[87]? = some (.ref x80)) (h83 : (va_up (va_up (va_up (va_up f x8 (.inl (0, m19, .inl (upd g19 i19 (g15 i15))))) x26 (.inl (0, m37, .inl (upd g37 i37 (g33 i33))))) x44 (.inl (0, m55, .inl (upd g55 i55 (g51 i51))))) x62 (.inl (0, m73, .inl (upd g73 i73 (g69 i69))))) l1 = .inr (12, fs82)) (h84 : l1 < n) (h86 : fs82[64]? = some (.ref x85)) (h88 : (va_up (va_up (va_up (va_up f x8 (.inl (0, m19, .inl (upd g19 i19 (g15 i15))))) x26 (.inl (0, m37, .inl (upd g37 i37 (g33 i33))))) x44 (.inl (0, m55, .inl (upd g55 i55 (g51 i51))))) x62 (.inl (0, m73, .inl (upd g73 i73 (g69 i69))))) x85 = .inl (3, m87, .inr (.inl g87))) (h89 : x85 < n) (h90 : mi_ix l3 m87 i87) (h92 : (va_up (va_up (va_up (va_up f x8 (.inl (0, m19, .inl (upd g19 i19 (g15 i15))))) x26 (.inl (0, m37, .inl (upd g37 i37 (g33 i33))))) x44 (.inl (0, m55, .inl (upd g55 i55 (g51 i51))))) x62 (.inl (0, m73, .inl (upd g73 i73 (g69 i69))))) x80 = .inl (3, m91, .inr (.inl g91))) (h93 : x80 < n) (h94 : mi_ix l3 m91 i91) (h95 : mi_W d 194 70 [some (.ref l1), some (.int l2), some (.int (l3 + 1)), o4] [] (n, sl, (va_up (va_up (va_up (va_up (va_up f x8 (.inl (0, m19, .inl (upd g19 i19 (g15 i15))))) x26 (.inl (0, m37, .inl (upd g37 i37 (g33 i33))))) x44 (.inl (0, m55, .inl (upd g55 i55 (g51 i51))))) x62 (.inl (0, m73, .inl (upd g73 i73 (g69 i69))))) x80 (.inl (3, m91, .inr (.inl (vp_updL g91 i91 (g87 i87))))))) Q) : mi_W d 194 75 [some (.ref l1), some (.int l2), some (.int l3), o4] [] (n, sl, f) Q := by
  refine w_aload_n cd_194_75 rfl ?_
  refine w_getfield cd_194_76 (show mt_f 12 233 = some (12, 83) by decide +kernel) h6 h7 h9 ?_
  refine w_iload_n cd_194_79 rfl ?_
  refine w_aload_n cd_194_80 rfl ?_
  refine w_getfield cd_194_81 (show mt_f 12 178 = some (12, 60) by decide +kernel) h11 h12 h14 ?_
  refine w_iload_n cd_194_84 rfl ?_
  refine w_iaload cd_194_85 h16 h17 h18 ?_
  refine w_iastore cd_194_86 h20 h21 h22 ?_
  refine w_aload_n cd_194_87 rfl ?_
  refine w_getfield cd_194_88 (show mt_f 12 236 = some (12, 84) by decide +kernel) h24 h25 h27 ?_
  refine w_iload_n cd_194_91 rfl ?_
  refine w_aload_n cd_194_92 rfl ?_
  refine w_getfield cd_194_93 (show mt_f 12 181 = some (12, 61) by decide +kernel) h29 h30 h32 ?_
  refine w_iload_n cd_194_96 rfl ?_
  refine w_iaload cd_194_97 h34 h35 h36 ?_
  refine w_iastore cd_194_98 h38 h39 h40 ?_
  refine w_aload_n cd_194_99 rfl ?_
  refine w_getfield cd_194_100 (show mt_f 12 239 = some (12, 85) by decide +kernel) h42 h43 h45 ?_
  refine w_iload_n cd_194_103 rfl ?_
  refine w_aload_n cd_194_104 rfl ?_
  refine w_getfield cd_194_105 (show mt_f 12 184 = some (12, 62) by decide +kernel) h47 h48 h50 ?_
  refine w_iload_n cd_194_108 rfl ?_
  refine w_iaload cd_194_109 h52 h53 h54 ?_
  refine w_iastore cd_194_110 h56 h57 h58 ?_
  refine w_aload_n cd_194_111 rfl ?_
  refine w_getfield cd_194_112 (show mt_f 12 242 = some (12, 86) by decide +kernel) h60 h61 h63 ?_
  refine w_iload_n cd_194_115 rfl ?_
  refine w_aload_n cd_194_116 rfl ?_
  refine w_getfield cd_194_117 (show mt_f 12 187 = some (12, 63) by decide +kernel) h65 h66 h68 ?_
  refine w_iload_n cd_194_120 rfl ?_
  refine w_iaload cd_194_121 h70 h71 h72 ?_
  refine w_iastore cd_194_122 h74 h75 h76 ?_
  refine w_aload_n cd_194_123 rfl ?_
  refine w_getfield cd_194_124 (show mt_f 12 245 = some (12, 87) by decide +kernel) h78 h79 h81 ?_
  refine w_iload_n cd_194_127 rfl ?_
  refine w_aload_n cd_194_128 rfl ?_
  refine w_getfield cd_194_129 (show mt_f 12 190 = some (12, 64) by decide +kernel) h83 h84 h86 ?_
  refine w_iload_n cd_194_132 rfl ?_
  refine w_laload cd_194_133 h88 h89 h90 ?_
  refine w_lastore cd_194_134 h92 h93 h94 ?_
  refine w_iinc (v := 1) (ls' := [some (.ref l1), some (.int l2), some (.int (l3 + 1)), o4]) cd_194_135 rfl (by decide) rfl ?_
  exact w_goto cd_194_138 (by decide) h95
theorem b_194_141 {d : Nat} {Q : (Option Value ⊕ Nat) → mi_H → Prop} (n sl : Nat) (f : Nat → mi_C) {l1 : Nat} {l2 : Int32} {l3 : Int32} {o4 : Option Value} {fs5 : List Value} {x8 : Nat} {fs10 : List Value} (h6 : f l1 = .inr (12, fs5)) (h7 : l1 < n) (h9 : fs5[41]? = some (.ref x8)) (h11 : f l1 = .inr (12, fs10)) (h12 : l1 < n) (h13 : mi_W d 197 0 (mi_en 6 [.ref l1, .ref x8]) [] (n, sl, f) (mi_Kc d 194 146 [some (.ref l1), some (.int l2), some (.int l3), o4] [] Q)) : mi_W (d + 1) 194 141 [some (.ref l1), some (.int l2), some (.int l3), o4] [] (n, sl, f) Q := by
  refine w_aload_n cd_194_141 rfl ?_
  refine w_aload_n cd_194_142 rfl ?_
  refine w_getfield cd_194_143 (show mt_f 12 147 = some (12, 41) by decide +kernel) h6 h7 h9 ?_
  exact w_invokevirtual cd_194_146 (show mt_m 12 571 = some (197, 0) by decide +kernel) (rest := []) rfl (as := [.ref l1, .ref x8]) rfl h11 (Or.inl h12) ⟨Nat.le_of_ble_eq_true rfl, Nat.le_of_ble_eq_true rfl, Nat.le_of_ble_eq_true rfl⟩ h13
theorem b_194_149 {d : Nat} {Q : (Option Value ⊕ Nat) → mi_H → Prop} (n sl : Nat) (f : Nat → mi_C) {l1 : Nat} {l2 : Int32} {l3 : Int32} {o4 : Option Value} {s5 : Int32} {fs6 : List Value} (h7 : f l1 = .inr (12, fs6)) (h8 : l1 < n) (h9 : 59 < fs6.length) (h10 : mi_W d 194 157 [some (.ref l1), some (.int l2), some (.int s5), some (.int 0)] [] (n, sl, (va_up f l1 (.inr (12, fs6.set 59 (.int l2))))) Q) : mi_W d 194 149 [some (.ref l1), some (.int l2), some (.int l3), o4] [.int s5] (n, sl, f) Q := by
  refine w_istore_n (ls' := [some (.ref l1), some (.int l2), some (.int s5), o4]) cd_194_149 (Nat.le_of_ble_eq_true rfl) rfl ?_
  refine w_aload_n cd_194_150 rfl ?_
  refine w_iload_n cd_194_151 rfl ?_
  refine w_putfield (w := .int l2) cd_194_152 (show mt_f 12 258 = some (12, 59) by decide +kernel) h7 h8 ⟨h9, rfl, Or.inl (by decide)⟩ ?_
  refine w_iconst (v := 0) cd_194_155 (by decide) ?_
  refine w_istore_n (ls' := [some (.ref l1), some (.int l2), some (.int s5), some (.int 0)]) cd_194_156 (Nat.le_of_ble_eq_true rfl) rfl ?_
  exact h10
theorem b_194_157 {d : Nat} {Q : (Option Value ⊕ Nat) → mi_H → Prop} (n sl : Nat) (f : Nat → mi_C) {l1 : Nat} {l2 : Int32} {l3 : Int32} {l4 : Int32} (h5 : l2 ≤ l4 → mi_W d 194 228 [some (.ref l1), some (.int l2), some (.int l3), some (.int l4)] [] (n, sl, f) Q) (h6 : ¬ (l2 ≤ l4) → mi_W d 194 162 [some (.ref l1), some (.int l2), some (.int l3), some (.int l4)] [] (n, sl, f) Q) : mi_W d 194 157 [some (.ref l1), some (.int l2), some (.int l3), some (.int l4)] [] (n, sl, f) Q := by
  refine w_iload_n cd_194_157 rfl ?_
  refine w_iload_n cd_194_158 rfl ?_
  exact w_if_icmpge cd_194_159 (by decide) h5 h6
theorem b_194_162 {d : Nat} {Q : (Option Value ⊕ Nat) → mi_H → Prop} (n sl : Nat) (f : Nat → mi_C) {l1 : Nat} {l2 : Int32} {l3 : Int32} {l4 : Int32} {fs5 : List Value} {x8 : Nat} {fs10 : List Value} {x13 : Nat} (m15 i15 : Nat) (g15 : Nat → Int32) (m19 i19 : Nat) (g19 : Nat → Int32) {fs23 : List Value} {x26 : Nat} {fs28 : List Value} {x31 : Nat} (m33 i33 : Nat) (g33 : Nat → Int32) (m37 i37 : Nat) (g37 : Nat → Int32) {fs41 : List Value} {x44 : Nat} {fs46 : List Value} {x49 : Nat} (m51 i51 : Nat) (g51 : Nat → Int32) (m55 i55 : Nat) (g55 : Nat → Int32) {fs59 : List Value} {x62 : Nat} {fs64 : List Value} {x67 : Nat} (m69 i69 : Nat) (g69 : Nat → Int32) (m73 i73 : Nat) (g73 : Nat → Int32) {fs77 : List Value} {x80 : Nat} {fs82 : List Value} {x85 : Nat} (m87 i87 : Nat) (g87 : Nat → Int64) (m91 i91 : Nat) (g91 : Nat → Int64) (h6 : f l1 = .inr (12, fs5)) (h7 : l1 < n) (h9 : fs5[60]? = some (.ref x8)) (h11 : f l1 = .inr (12, fs10)) (h12 : l1 < n) (h14 : fs10[83]? = some (.ref x13)) (h16 : f x13 = .inl (0, m15, .inl g15)) (h17 : x13 < n ∨ x13 = mi_SC) (h18 : mi_ix l4 m15 i15) (h20 : f x8 = .inl (0, m19, .inl g19)) (h21 : x8 < n) (h22 : mi_ix l4 m19 i19) (h24 : (va_up f x8 (.inl (0, m19, .inl (upd g19 i19 (g15 i15))))) l1 = .inr (12, fs23)) (h25 : l1 < n) (h27 : fs23[61]? = some (.ref x26)) (h29 : (va_up f x8 (.inl (0, m19, .inl (upd g19 i19 (g15 i15))))) l1 = .inr (12, fs28)) (h30 : l1 < n) (h32 : fs28[84]? = some (.ref x31)) (h34 : (va_up f x8 (.inl (0, m19, .inl (upd g19 i19 (g15 i15))))) x31 = .inl (0, m33, .inl g33)) (h35 : x31 < n ∨ x31 = mi_SC) (h36 : mi_ix l4 m33 i33) (h38 : (va_up f x8 (.inl (0, m19, .inl (upd g19 i19 (g15 i15))))) x26 = .inl (0, m37, .inl g37)) (h39 : x26 < n) (h40 : mi_ix l4 m37 i37) (h42 : (va_up (va_up f x8 (.inl (0, m19, .inl (upd g19 i19 (g15 i15))))) x26 (.inl (0, m37, .inl (upd g37 i37 (g33 i33))))) l1 = .inr (12, fs41)) (h43 : l1 < n) (h45 : fs41[62]? = some (.ref x44)) (h47 : (va_up (va_up f x8 (.inl (0, m19, .inl (upd g19 i19 (g15 i15))))) x26 (.inl (0, m37, .inl (upd g37 i37 (g33 i33))))) l1 = .inr (12, fs46)) (h48 : l1 < n) (h50 : fs46[85]? = some (.ref x49)) (h52 : (va_up (va_up f x8 (.inl (0, m19, .inl (upd g19 i19 (g15 i15))))) x26 (.inl (0, m37, .inl (upd g37 i37 (g33 i33))))) x49 = .inl (0, m51, .inl g51)) (h53 : x49 < n ∨ x49 = mi_SC) (h54 : mi_ix l4 m51 i51) (h56 : (va_up (va_up f x8 (.inl (0, m19, .inl (upd g19 i19 (g15 i15))))) x26 (.inl (0, m37, .inl (upd g37 i37 (g33 i33))))) x44 = .inl (0, m55, .inl g55)) (h57 : x44 < n) (h58 : mi_ix l4 m55 i55) (h60 : (va_up (va_up (va_up f x8 (.inl (0, m19, .inl (upd g19 i19 (g15 i15))))) x26 (.inl (0, m37, .inl (upd g37 i37 (g33 i33))))) x44 (.inl (0, m55, .inl (upd g55 i55 (g51 i51))))) l1 = .inr (12, fs59)) (h61 : l1 < n) (h63 : fs59[63]? = some (.ref x62)) (h65 : (va_up (va_up (va_up f x8 (.inl (0, m19, .inl (upd g19 i19 (g15 i15))))) x26 (.inl (0, m37, .inl (upd g37 i37 (g33 i33))))) x44 (.inl (0, m55, .inl (upd g55 i55 (g51 i51))))) l1 = .inr (12, fs64)) (h66 : l1 < n) (h68 : fs64[86]? = some (.ref x67)) (h70 : (va_up (va_up (va_up f x8 (.inl (0, m19, .inl (upd g19 i19 (g15 i15))))) x26 (.inl (0, m37, .inl (upd g37 i37 (g33 i33))))) x44 (.inl (0, m55, .inl (upd g55 i55 (g51 i51))))) x67 = .inl (0, m69, .inl g69)) (h71 : x67 < n ∨ x67 = mi_SC) (h72 : mi_ix l4 m69 i69) (h74 : (va_up (va_up (va_up f x8 (.inl (0, m19, .inl (upd g19 i19 (g15 i15))))) x26 (.inl (0, m37, .inl (upd g37 i37 (g33 i33))))) x44 (.inl (0, m55, .inl (upd g55 i55 (g51 i51))))) x62 = .inl (0, m73, .inl g73)) (h75 : x62 < n) (h76 : mi_ix l4 m73 i73) (h78 : (va_up (va_up (va_up (va_up f x8 (.inl (0, m19, .inl (upd g19 i19 (g15 i15))))) x26 (.inl (0, m37, .inl (upd g37 i37 (g33 i33))))) x44 (.inl (0, m55, .inl (upd g55 i55 (g51 i51))))) x62 (.inl (0, m73, .inl (upd g73 i73 (g69 i69))))) l1 = .inr (12, fs77)) (h79 : l1 < n) (h81 : fs77[64]? = some (.ref x80)) (h83 : (va_up (va_up (va_up (va_up f x8 (.inl (0, m19, .inl (upd g19 i19 (g15 i15))))) x26 (.inl (0, m37, .inl (upd g37 i37 (g33 i33))))) x44 (.inl (0, m55, .inl (upd g55 i55 (g51 i51))))) x62 (.inl (0, m73, .inl (upd g73 i73 (g69 i69))))) l1 = .inr (12, fs82)) (h84 : l1 < n) (h86 : fs82[87]? = some (.ref x85)) (h88 : (va_up (va_up (va_up (va_up f x8 (.inl (0, m19, .inl (upd g19 i19 (g15 i15))))) x26 (.inl (0, m37, .inl (upd g37 i37 (g33 i33))))) x44 (.inl (0, m55, .inl (upd g55 i55 (g51 i51))))) x62 (.inl (0, m73, .inl (upd g73 i73 (g69 i69))))) x85 = .inl (3, m87, .inr (.inl g87))) (h89 : x85 < n) (h90 : mi_ix l4 m87 i87) (h92 : (va_up (va_up (va_up (va_up f x8 (.inl (0, m19, .inl (upd g19 i19 (g15 i15))))) x26 (.inl (0, m37, .inl (upd g37 i37 (g33 i33))))) x44 (.inl (0, m55, .inl (upd g55 i55 (g51 i51))))) x62 (.inl (0, m73, .inl (upd g73 i73 (g69 i69))))) x80 = .inl (3, m91, .inr (.inl g91))) (h93 : x80 < n) (h94 : mi_ix l4 m91 i91) (h95 : mi_W d 194 157 [some (.ref l1), some (.int l2), some (.int l3), some (.int (l4 + 1))] [] (n, sl, (va_up (va_up (va_up (va_up (va_up f x8 (.inl (0, m19, .inl (upd g19 i19 (g15 i15))))) x26 (.inl (0, m37, .inl (upd g37 i37 (g33 i33))))) x44 (.inl (0, m55, .inl (upd g55 i55 (g51 i51))))) x62 (.inl (0, m73, .inl (upd g73 i73 (g69 i69))))) x80 (.inl (3, m91, .inr (.inl (vp_updL g91 i91 (g87 i87))))))) Q) : mi_W d 194 162 [some (.ref l1), some (.int l2), some (.int l3), some (.int l4)] [] (n, sl, f) Q := by
  refine w_aload_n cd_194_162 rfl ?_
  refine w_getfield cd_194_163 (show mt_f 12 178 = some (12, 60) by decide +kernel) h6 h7 h9 ?_
  refine w_iload_n cd_194_166 rfl ?_
  refine w_aload_n cd_194_167 rfl ?_
  refine w_getfield cd_194_168 (show mt_f 12 233 = some (12, 83) by decide +kernel) h11 h12 h14 ?_
  refine w_iload_n cd_194_171 rfl ?_
  refine w_iaload cd_194_172 h16 h17 h18 ?_
  refine w_iastore cd_194_173 h20 h21 h22 ?_
  refine w_aload_n cd_194_174 rfl ?_
  refine w_getfield cd_194_175 (show mt_f 12 181 = some (12, 61) by decide +kernel) h24 h25 h27 ?_
  refine w_iload_n cd_194_178 rfl ?_
  refine w_aload_n cd_194_179 rfl ?_
  refine w_getfield cd_194_180 (show mt_f 12 236 = some (12, 84) by decide +kernel) h29 h30 h32 ?_
  refine w_iload_n cd_194_183 rfl ?_
  refine w_iaload cd_194_184 h34 h35 h36 ?_
  refine w_iastore cd_194_185 h38 h39 h40 ?_
  refine w_aload_n cd_194_186 rfl ?_
  refine w_getfield cd_194_187 (show mt_f 12 184 = some (12, 62) by decide +kernel) h42 h43 h45 ?_
  refine w_iload_n cd_194_190 rfl ?_
  refine w_aload_n cd_194_191 rfl ?_
  refine w_getfield cd_194_192 (show mt_f 12 239 = some (12, 85) by decide +kernel) h47 h48 h50 ?_
  refine w_iload_n cd_194_195 rfl ?_
  refine w_iaload cd_194_196 h52 h53 h54 ?_
  refine w_iastore cd_194_197 h56 h57 h58 ?_
  refine w_aload_n cd_194_198 rfl ?_
  refine w_getfield cd_194_199 (show mt_f 12 187 = some (12, 63) by decide +kernel) h60 h61 h63 ?_
  refine w_iload_n cd_194_202 rfl ?_
  refine w_aload_n cd_194_203 rfl ?_
  refine w_getfield cd_194_204 (show mt_f 12 242 = some (12, 86) by decide +kernel) h65 h66 h68 ?_
  refine w_iload_n cd_194_207 rfl ?_
  refine w_iaload cd_194_208 h70 h71 h72 ?_
  refine w_iastore cd_194_209 h74 h75 h76 ?_
  refine w_aload_n cd_194_210 rfl ?_
  refine w_getfield cd_194_211 (show mt_f 12 190 = some (12, 64) by decide +kernel) h78 h79 h81 ?_
  refine w_iload_n cd_194_214 rfl ?_
  refine w_aload_n cd_194_215 rfl ?_
  refine w_getfield cd_194_216 (show mt_f 12 245 = some (12, 87) by decide +kernel) h83 h84 h86 ?_
  refine w_iload_n cd_194_219 rfl ?_
  refine w_laload cd_194_220 h88 h89 h90 ?_
  refine w_lastore cd_194_221 h92 h93 h94 ?_
  refine w_iinc (v := 1) (ls' := [some (.ref l1), some (.int l2), some (.int l3), some (.int (l4 + 1))]) cd_194_222 rfl (by decide) rfl ?_
  exact w_goto cd_194_225 (by decide) h95
theorem b_194_228 {d : Nat} {Q : (Option Value ⊕ Nat) → mi_H → Prop} (n sl : Nat) (f : Nat → mi_C) {l1 : Nat} {l2 : Int32} {l3 : Int32} {l4 : Int32} (h5 : Q (.inl (some (.int l3))) (n, sl, f)) : mi_W d 194 228 [some (.ref l1), some (.int l2), some (.int l3), some (.int l4)] [] (n, sl, f) Q := by
  refine w_iload_n cd_194_228 rfl ?_
  exact w_ireturn_i cd_194_229 (by decide +kernel) h5
end
