section
/-! java/lang/Math.min(II)I -/
set_option maxRecDepth 100000 in
theorem mq_23 : mt_q 23 = my_23 := rfl
set_option maxRecDepth 100000 in
theorem ci_23 : mt_inc 0 my_23.cd = true := by decide +kernel
theorem cd_23_0 : mt_cd 23 0 = some (.iload_n 0) := mt_cd_of (q := (0, .iload_n 0, 1)) mq_23 ci_23 (List.mem_of_getElem? (i := 0) rfl)
theorem cd_23_1 : mt_cd 23 1 = some (.iload_n 1) := mt_cd_of (q := (1, .iload_n 1, 1)) mq_23 ci_23 (List.mem_of_getElem? (i := 1) rfl)
theorem cd_23_2 : mt_cd 23 2 = some (.if_icmp .gt 7) := mt_cd_of (q := (2, .if_icmp .gt 7, 3)) mq_23 ci_23 (List.mem_of_getElem? (i := 2) rfl)
theorem cd_23_5 : mt_cd 23 5 = some (.iload_n 0) := mt_cd_of (q := (5, .iload_n 0, 1)) mq_23 ci_23 (List.mem_of_getElem? (i := 3) rfl)
theorem cd_23_6 : mt_cd 23 6 = some (.goto 4) := mt_cd_of (q := (6, .goto 4, 3)) mq_23 ci_23 (List.mem_of_getElem? (i := 4) rfl)
theorem cd_23_9 : mt_cd 23 9 = some (.iload_n 1) := mt_cd_of (q := (9, .iload_n 1, 1)) mq_23 ci_23 (List.mem_of_getElem? (i := 5) rfl)
theorem cd_23_10 : mt_cd 23 10 = some (.ireturn) := mt_cd_of (q := (10, .ireturn, 1)) mq_23 ci_23 (List.mem_of_getElem? (i := 6) rfl)
theorem b_23_0 {d : Nat} {Q : (Option Value ⊕ Nat) → mi_H → Prop} (n sl : Nat) (f : Nat → mi_C) {l1 : Int32} {l2 : Int32} (h3 : l2 < l1 → mi_W d 23 9 [some (.int l1), some (.int l2)] [] (n, sl, f) Q) (h4 : ¬ (l2 < l1) → mi_W d 23 5 [some (.int l1), some (.int l2)] [] (n, sl, f) Q) : mi_W d 23 0 [some (.int l1), some (.int l2)] [] (n, sl, f) Q := by
  refine w_iload_n cd_23_0 rfl ?_
  refine w_iload_n cd_23_1 rfl ?_
  exact w_if_icmpgt cd_23_2 (by decide) h3 h4
theorem b_23_5 {d : Nat} {Q : (Option Value ⊕ Nat) → mi_H → Prop} (n sl : Nat) (f : Nat → mi_C) {l1 : Int32} {l2 : Int32} (h3 : mi_W d 23 10 [some (.int l1), some (.int l2)] [.int l1] (n, sl, f) Q) : mi_W d 23 5 [some (.int l1), some (.int l2)] [] (n, sl, f) Q := by
  refine w_iload_n cd_23_5 rfl ?_
  exact w_goto cd_23_6 (by decide) h3
theorem b_23_9 {d : Nat} {Q : (Option Value ⊕ Nat) → mi_H → Prop} (n sl : Nat) (f : Nat → mi_C) {l1 : Int32} {l2 : Int32} (h3 : mi_W d 23 10 [some (.int l1), some (.int l2)] [.int l2] (n, sl, f) Q) : mi_W d 23 9 [some (.int l1), some (.int l2)] [] (n, sl, f) Q := by
  refine w_iload_n cd_23_9 rfl ?_
  exact h3
theorem b_23_10 {d : Nat} {Q : (Option Value ⊕ Nat) → mi_H → Prop} (n sl : Nat) (f : Nat → mi_C) {l1 : Int32} {l2 : Int32} {s3 : Int32} (h4 : Q (.inl (some (.int s3))) (n, sl, f)) : mi_W d 23 10 [some (.int l1), some (.int l2)] [.int s3] (n, sl, f) Q := by
  exact w_ireturn_i cd_23_10 (by decide +kernel) h4
/-! java/util/Arrays.fill([JJ)V -/
set_option maxRecDepth 100000 in
theorem mq_57 : mt_q 57 = my_57 := rfl
set_option maxRecDepth 100000 in
theorem ci_57 : mt_inc 0 my_57.cd = true := by decide +kernel
theorem cd_57_0 : mt_cd 57 0 = some (.iconst 0) := mt_cd_of (q := (0, .iconst 0, 1)) mq_57 ci_57 (List.mem_of_getElem? (i := 0) rfl)
theorem cd_57_1 : mt_cd 57 1 = some (.istore_n 3) := mt_cd_of (q := (1, .istore_n 3, 1)) mq_57 ci_57 (List.mem_of_getElem? (i := 1) rfl)
theorem cd_57_2 : mt_cd 57 2 = some (.aload_n 0) := mt_cd_of (q := (2, .aload_n 0, 1)) mq_57 ci_57 (List.mem_of_getElem? (i := 2) rfl)
theorem cd_57_3 : mt_cd 57 3 = some (.arraylength) := mt_cd_of (q := (3, .arraylength, 1)) mq_57 ci_57 (List.mem_of_getElem? (i := 3) rfl)
theorem cd_57_4 : mt_cd 57 4 = some (.istore 4) := mt_cd_of (q := (4, .istore 4, 2)) mq_57 ci_57 (List.mem_of_getElem? (i := 4) rfl)
theorem cd_57_6 : mt_cd 57 6 = some (.iload_n 3) := mt_cd_of (q := (6, .iload_n 3, 1)) mq_57 ci_57 (List.mem_of_getElem? (i := 5) rfl)
theorem cd_57_7 : mt_cd 57 7 = some (.iload 4) := mt_cd_of (q := (7, .iload 4, 2)) mq_57 ci_57 (List.mem_of_getElem? (i := 6) rfl)
theorem cd_57_9 : mt_cd 57 9 = some (.if_icmp .ge 13) := mt_cd_of (q := (9, .if_icmp .ge 13, 3)) mq_57 ci_57 (List.mem_of_getElem? (i := 7) rfl)
theorem cd_57_12 : mt_cd 57 12 = some (.aload_n 0) := mt_cd_of (q := (12, .aload_n 0, 1)) mq_57 ci_57 (List.mem_of_getElem? (i := 8) rfl)
theorem cd_57_13 : mt_cd 57 13 = some (.iload_n 3) := mt_cd_of (q := (13, .iload_n 3, 1)) mq_57 ci_57 (List.mem_of_getElem? (i := 9) rfl)
theorem cd_57_14 : mt_cd 57 14 = some (.lload_n 1) := mt_cd_of (q := (14, .lload_n 1, 1)) mq_57 ci_57 (List.mem_of_getElem? (i := 10) rfl)
theorem cd_57_15 : mt_cd 57 15 = some (.lastore) := mt_cd_of (q := (15, .lastore, 1)) mq_57 ci_57 (List.mem_of_getElem? (i := 11) rfl)
theorem cd_57_16 : mt_cd 57 16 = some (.iinc 3 1) := mt_cd_of (q := (16, .iinc 3 1, 3)) mq_57 ci_57 (List.mem_of_getElem? (i := 12) rfl)
theorem cd_57_19 : mt_cd 57 19 = some (.goto (-13)) := mt_cd_of (q := (19, .goto (-13), 3)) mq_57 ci_57 (List.mem_of_getElem? (i := 13) rfl)
theorem cd_57_22 : mt_cd 57 22 = some (.return_) := mt_cd_of (q := (22, .return_, 1)) mq_57 ci_57 (List.mem_of_getElem? (i := 14) rfl)
theorem b_57_0 {d : Nat} {Q : (Option Value ⊕ Nat) → mi_H → Prop} (n sl : Nat) (f : Nat → mi_C) {l1 : Nat} {l2 : Int64} {o3 : Option Value} {o4 : Option Value} (m5 ka5 : Nat) (g5 : (Nat → Int32) ⊕ (Nat → Int64) ⊕ (Nat → UInt32) ⊕ (Nat → UInt64) ⊕ (Nat → Option Nat)) (h6 : f l1 = .inl (ka5, m5, g5)) (h7 : l1 < n ∧ ka5 < mt_na) (h8 : mi_W d 57 6 [some (.ref l1), some (.long l2), none, some (.int 0), some (.int (Int32.ofNat m5))] [] (n, sl, f) Q) : mi_W d 57 0 [some (.ref l1), some (.long l2), none, o3, o4] [] (n, sl, f) Q := by
  refine w_iconst (v := 0) cd_57_0 (by decide) ?_
  refine w_istore_n (ls' := [some (.ref l1), some (.long l2), none, some (.int 0), o4]) cd_57_1 (Nat.le_of_ble_eq_true rfl) rfl ?_
  refine w_aload_n cd_57_2 rfl ?_
  refine w_arraylength cd_57_3 h6 h7 ?_
  refine w_istore (ls' := [some (.ref l1), some (.long l2), none, some (.int 0), some (.int (Int32.ofNat m5))]) cd_57_4 (Nat.le_of_ble_eq_true rfl) rfl ?_
  exact h8
theorem b_57_6 {d : Nat} {Q : (Option Value ⊕ Nat) → mi_H → Prop} (n sl : Nat) (f : Nat → mi_C) {l1 : Nat} {l2 : Int64} {l3 : Int32} {l4 : Int32} (h5 : l4 ≤ l3 → mi_W d 57 22 [some (.ref l1), some (.long l2), none, some (.int l3), some (.int l4)] [] (n, sl, f) Q) (h6 : ¬ (l4 ≤ l3) → mi_W d 57 12 [some (.ref l1), some (.long l2), none, some (.int l3), some (.int l4)] [] (n, sl, f) Q) : mi_W d 57 6 [some (.ref l1), some (.long l2), none, some (.int l3), some (.int l4)] [] (n, sl, f) Q := by
  refine w_iload_n cd_57_6 rfl ?_
  refine w_iload cd_57_7 rfl ?_
  exact w_if_icmpge cd_57_9 (by decide) h5 h6
theorem b_57_12 {d : Nat} {Q : (Option Value ⊕ Nat) → mi_H → Prop} (n sl : Nat) (f : Nat → mi_C) {l1 : Nat} {l2 : Int64} {l3 : Int32} {l4 : Int32} (m5 i5 : Nat) (g5 : Nat → Int64) (h6 : f l1 = .inl (3, m5, .inr (.inl g5))) (h7 : l1 < n) (h8 : mi_ix l3 m5 i5) (h9 : mi_W d 57 6 [some (.ref l1), some (.long l2), none, some (.int (l3 + 1)), some (.int l4)] [] (n, sl, (va_up f l1 (.inl (3, m5, .inr (.inl (vp_updL g5 i5 l2)))))) Q) : mi_W d 57 12 [some (.ref l1), some (.long l2), none, some (.int l3), some (.int l4)] [] (n, sl, f) Q := by
  refine w_aload_n cd_57_12 rfl ?_
  refine w_iload_n cd_57_13 rfl ?_
  refine w_lload_n cd_57_14 rfl ?_
  refine w_lastore cd_57_15 h6 h7 h8 ?_
  refine w_iinc (v := 1) (ls' := [some (.ref l1), some (.long l2), none, some (.int (l3 + 1)), some (.int l4)]) cd_57_16 rfl (by decide) rfl ?_
  exact w_goto cd_57_19 (by decide) h9
theorem b_57_22 {d : Nat} {Q : (Option Value ⊕ Nat) → mi_H → Prop} (n sl : Nat) (f : Nat → mi_C) {l1 : Nat} {l2 : Int64} {l3 : Int32} {l4 : Int32} (h5 : Q (.inl none) (n, sl, f)) : mi_W d 57 22 [some (.ref l1), some (.long l2), none, some (.int l3), some (.int l4)] [] (n, sl, f) Q := by
  exact w_return cd_57_22 (by decide +kernel) h5
/-! java/lang/Math.max(JJ)J -/
set_option maxRecDepth 100000 in
theorem mq_76 : mt_q 76 = my_76 := rfl
set_option maxRecDepth 100000 in
theorem ci_76 : mt_inc 0 my_76.cd = true := by decide +kernel
theorem cd_76_0 : mt_cd 76 0 = some (.lload_n 0) := mt_cd_of (q := (0, .lload_n 0, 1)) mq_76 ci_76 (List.mem_of_getElem? (i := 0) rfl)
theorem cd_76_1 : mt_cd 76 1 = some (.lload_n 2) := mt_cd_of (q := (1, .lload_n 2, 1)) mq_76 ci_76 (List.mem_of_getElem? (i := 1) rfl)
theorem cd_76_2 : mt_cd 76 2 = some (.lcmp) := mt_cd_of (q := (2, .lcmp, 1)) mq_76 ci_76 (List.mem_of_getElem? (i := 2) rfl)
theorem cd_76_3 : mt_cd 76 3 = some (.ifCond .lt 7) := mt_cd_of (q := (3, .ifCond .lt 7, 3)) mq_76 ci_76 (List.mem_of_getElem? (i := 3) rfl)
theorem cd_76_6 : mt_cd 76 6 = some (.lload_n 0) := mt_cd_of (q := (6, .lload_n 0, 1)) mq_76 ci_76 (List.mem_of_getElem? (i := 4) rfl)
theorem cd_76_7 : mt_cd 76 7 = some (.goto 4) := mt_cd_of (q := (7, .goto 4, 3)) mq_76 ci_76 (List.mem_of_getElem? (i := 5) rfl)
theorem cd_76_10 : mt_cd 76 10 = some (.lload_n 2) := mt_cd_of (q := (10, .lload_n 2, 1)) mq_76 ci_76 (List.mem_of_getElem? (i := 6) rfl)
theorem cd_76_11 : mt_cd 76 11 = some (.lreturn) := mt_cd_of (q := (11, .lreturn, 1)) mq_76 ci_76 (List.mem_of_getElem? (i := 7) rfl)
theorem b_76_0 {d : Nat} {Q : (Option Value ⊕ Nat) → mi_H → Prop} (n sl : Nat) (f : Nat → mi_C) {l1 : Int64} {l2 : Int64} (h3 : (lg_cmp l1 l2) < (0 : Int32) → mi_W d 76 10 [some (.long l1), none, some (.long l2), none] [] (n, sl, f) Q) (h4 : ¬ ((lg_cmp l1 l2) < (0 : Int32)) → mi_W d 76 6 [some (.long l1), none, some (.long l2), none] [] (n, sl, f) Q) : mi_W d 76 0 [some (.long l1), none, some (.long l2), none] [] (n, sl, f) Q := by
  refine w_lload_n cd_76_0 rfl ?_
  refine w_lload_n cd_76_1 rfl ?_
  refine w_lcmp cd_76_2 ?_
  exact w_iflt cd_76_3 (by decide) h3 h4
theorem b_76_6 {d : Nat} {Q : (Option Value ⊕ Nat) → mi_H → Prop} (n sl : Nat) (f : Nat → mi_C) {l1 : Int64} {l2 : Int64} (h3 : mi_W d 76 11 [some (.long l1), none, some (.long l2), none] [.long l1] (n, sl, f) Q) : mi_W d 76 6 [some (.long l1), none, some (.long l2), none] [] (n, sl, f) Q := by
  refine w_lload_n cd_76_6 rfl ?_
  exact w_goto cd_76_7 (by decide) h3
theorem b_76_10 {d : Nat} {Q : (Option Value ⊕ Nat) → mi_H → Prop} (n sl : Nat) (f : Nat → mi_C) {l1 : Int64} {l2 : Int64} (h3 : mi_W d 76 11 [some (.long l1), none, some (.long l2), none] [.long l2] (n, sl, f) Q) : mi_W d 76 10 [some (.long l1), none, some (.long l2), none] [] (n, sl, f) Q := by
  refine w_lload_n cd_76_10 rfl ?_
  exact h3
theorem b_76_11 {d : Nat} {Q : (Option Value ⊕ Nat) → mi_H → Prop} (n sl : Nat) (f : Nat → mi_C) {l1 : Int64} {l2 : Int64} {s3 : Int64} (h4 : Q (.inl (some (.long s3))) (n, sl, f)) : mi_W d 76 11 [some (.long l1), none, some (.long l2), none] [.long s3] (n, sl, f) Q := by
  exact w_lreturn cd_76_11 (by decide +kernel) h4
/-! java/lang/Math.abs(J)J -/
set_option maxRecDepth 100000 in
theorem mq_96 : mt_q 96 = my_96 := rfl
set_option maxRecDepth 100000 in
theorem ci_96 : mt_inc 0 my_96.cd = true := by decide +kernel
theorem cd_96_0 : mt_cd 96 0 = some (.lload_n 0) := mt_cd_of (q := (0, .lload_n 0, 1)) mq_96 ci_96 (List.mem_of_getElem? (i := 0) rfl)
theorem cd_96_1 : mt_cd 96 1 = some (.lconst 0) := mt_cd_of (q := (1, .lconst 0, 1)) mq_96 ci_96 (List.mem_of_getElem? (i := 1) rfl)
theorem cd_96_2 : mt_cd 96 2 = some (.lcmp) := mt_cd_of (q := (2, .lcmp, 1)) mq_96 ci_96 (List.mem_of_getElem? (i := 2) rfl)
theorem cd_96_3 : mt_cd 96 3 = some (.ifCond .ge 8) := mt_cd_of (q := (3, .ifCond .ge 8, 3)) mq_96 ci_96 (List.mem_of_getElem? (i := 3) rfl)
theorem cd_96_6 : mt_cd 96 6 = some (.lload_n 0) := mt_cd_of (q := (6, .lload_n 0, 1)) mq_96 ci_96 (List.mem_of_getElem? (i := 4) rfl)
theorem cd_96_7 : mt_cd 96 7 = some (.lneg) := mt_cd_of (q := (7, .lneg, 1)) mq_96 ci_96 (List.mem_of_getElem? (i := 5) rfl)
theorem cd_96_8 : mt_cd 96 8 = some (.goto 4) := mt_cd_of (q := (8, .goto 4, 3)) mq_96 ci_96 (List.mem_of_getElem? (i := 6) rfl)
theorem cd_96_11 : mt_cd 96 11 = some (.lload_n 0) := mt_cd_of (q := (11, .lload_n 0, 1)) mq_96 ci_96 (List.mem_of_getElem? (i := 7) rfl)
theorem cd_96_12 : mt_cd 96 12 = some (.lreturn) := mt_cd_of (q := (12, .lreturn, 1)) mq_96 ci_96 (List.mem_of_getElem? (i := 8) rfl)
theorem b_96_0 {d : Nat} {Q : (Option Value ⊕ Nat) → mi_H → Prop} (n sl : Nat) (f : Nat → mi_C) {l1 : Int64} (h2 : (0 : Int32) ≤ (lg_cmp l1 0) → mi_W d 96 11 [some (.long l1), none] [] (n, sl, f) Q) (h3 : ¬ ((0 : Int32) ≤ (lg_cmp l1 0)) → mi_W d 96 6 [some (.long l1), none] [] (n, sl, f) Q) : mi_W d 96 0 [some (.long l1), none] [] (n, sl, f) Q := by
  refine w_lload_n cd_96_0 rfl ?_
  refine w_lconst (lv := 0) cd_96_1 (by decide) ?_
  refine w_lcmp cd_96_2 ?_
  exact w_ifge cd_96_3 (by decide) h2 h3
theorem b_96_6 {d : Nat} {Q : (Option Value ⊕ Nat) → mi_H → Prop} (n sl : Nat) (f : Nat → mi_C) {l1 : Int64} (h2 : mi_W d 96 12 [some (.long l1), none] [.long (-l1)] (n, sl, f) Q) : mi_W d 96 6 [some (.long l1), none] [] (n, sl, f) Q := by
  refine w_lload_n cd_96_6 rfl ?_
  refine w_lneg cd_96_7 ?_
  exact w_goto cd_96_8 (by decide) h2
theorem b_96_11 {d : Nat} {Q : (Option Value ⊕ Nat) → mi_H → Prop} (n sl : Nat) (f : Nat → mi_C) {l1 : Int64} (h2 : mi_W d 96 12 [some (.long l1), none] [.long l1] (n, sl, f) Q) : mi_W d 96 11 [some (.long l1), none] [] (n, sl, f) Q := by
  refine w_lload_n cd_96_11 rfl ?_
  exact h2
theorem b_96_12 {d : Nat} {Q : (Option Value ⊕ Nat) → mi_H → Prop} (n sl : Nat) (f : Nat → mi_C) {l1 : Int64} {s2 : Int64} (h3 : Q (.inl (some (.long s2))) (n, sl, f)) : mi_W d 96 12 [some (.long l1), none] [.long s2] (n, sl, f) Q := by
  exact w_lreturn cd_96_12 (by decide +kernel) h3
/-! java/lang/Math.min(JJ)J -/
set_option maxRecDepth 100000 in
theorem mq_99 : mt_q 99 = my_99 := rfl
set_option maxRecDepth 100000 in
theorem ci_99 : mt_inc 0 my_99.cd = true := by decide +kernel
theorem cd_99_0 : mt_cd 99 0 = some (.lload_n 0) := mt_cd_of (q := (0, .lload_n 0, 1)) mq_99 ci_99 (List.mem_of_getElem? (i := 0) rfl)
theorem cd_99_1 : mt_cd 99 1 = some (.lload_n 2) := mt_cd_of (q := (1, .lload_n 2, 1)) mq_99 ci_99 (List.mem_of_getElem? (i := 1) rfl)
theorem cd_99_2 : mt_cd 99 2 = some (.lcmp) := mt_cd_of (q := (2, .lcmp, 1)) mq_99 ci_99 (List.mem_of_getElem? (i := 2) rfl)
theorem cd_99_3 : mt_cd 99 3 = some (.ifCond .gt 7) := mt_cd_of (q := (3, .ifCond .gt 7, 3)) mq_99 ci_99 (List.mem_of_getElem? (i := 3) rfl)
theorem cd_99_6 : mt_cd 99 6 = some (.lload_n 0) := mt_cd_of (q := (6, .lload_n 0, 1)) mq_99 ci_99 (List.mem_of_getElem? (i := 4) rfl)
theorem cd_99_7 : mt_cd 99 7 = some (.goto 4) := mt_cd_of (q := (7, .goto 4, 3)) mq_99 ci_99 (List.mem_of_getElem? (i := 5) rfl)
theorem cd_99_10 : mt_cd 99 10 = some (.lload_n 2) := mt_cd_of (q := (10, .lload_n 2, 1)) mq_99 ci_99 (List.mem_of_getElem? (i := 6) rfl)
theorem cd_99_11 : mt_cd 99 11 = some (.lreturn) := mt_cd_of (q := (11, .lreturn, 1)) mq_99 ci_99 (List.mem_of_getElem? (i := 7) rfl)
theorem b_99_0 {d : Nat} {Q : (Option Value ⊕ Nat) → mi_H → Prop} (n sl : Nat) (f : Nat → mi_C) {l1 : Int64} {l2 : Int64} (h3 : (0 : Int32) < (lg_cmp l1 l2) → mi_W d 99 10 [some (.long l1), none, some (.long l2), none] [] (n, sl, f) Q) (h4 : ¬ ((0 : Int32) < (lg_cmp l1 l2)) → mi_W d 99 6 [some (.long l1), none, some (.long l2), none] [] (n, sl, f) Q) : mi_W d 99 0 [some (.long l1), none, some (.long l2), none] [] (n, sl, f) Q := by
  refine w_lload_n cd_99_0 rfl ?_
  refine w_lload_n cd_99_1 rfl ?_
  refine w_lcmp cd_99_2 ?_
  exact w_ifgt cd_99_3 (by decide) h3 h4
theorem b_99_6 {d : Nat} {Q : (Option Value ⊕ Nat) → mi_H → Prop} (n sl : Nat) (f : Nat → mi_C) {l1 : Int64} {l2 : Int64} (h3 : mi_W d 99 11 [some (.long l1), none, some (.long l2), none] [.long l1] (n, sl, f) Q) : mi_W d 99 6 [some (.long l1), none, some (.long l2), none] [] (n, sl, f) Q := by
  refine w_lload_n cd_99_6 rfl ?_
  exact w_goto cd_99_7 (by decide) h3
theorem b_99_10 {d : Nat} {Q : (Option Value ⊕ Nat) → mi_H → Prop} (n sl : Nat) (f : Nat → mi_C) {l1 : Int64} {l2 : Int64} (h3 : mi_W d 99 11 [some (.long l1), none, some (.long l2), none] [.long l2] (n, sl, f) Q) : mi_W d 99 10 [some (.long l1), none, some (.long l2), none] [] (n, sl, f) Q := by
  refine w_lload_n cd_99_10 rfl ?_
  exact h3
theorem b_99_11 {d : Nat} {Q : (Option Value ⊕ Nat) → mi_H → Prop} (n sl : Nat) (f : Nat → mi_C) {l1 : Int64} {l2 : Int64} {s3 : Int64} (h4 : Q (.inl (some (.long s3))) (n, sl, f)) : mi_W d 99 11 [some (.long l1), none, some (.long l2), none] [.long s3] (n, sl, f) Q := by
  exact w_lreturn cd_99_11 (by decide +kernel) h4
/-! java/lang/Math.multiplyHigh(JJ)J -/
set_option maxRecDepth 100000 in
theorem mq_181 : mt_q 181 = my_181 := rfl
set_option maxRecDepth 100000 in
theorem ci_181 : mt_inc 0 my_181.cd = true := by decide +kernel
theorem cd_181_0 : mt_cd 181 0 = some (.lload_n 0) := mt_cd_of (q := (0, .lload_n 0, 1)) mq_181 ci_181 (List.mem_of_getElem? (i := 0) rfl)
theorem cd_181_1 : mt_cd 181 1 = some (.bipush 32) := mt_cd_of (q := (1, .bipush 32, 2)) mq_181 ci_181 (List.mem_of_getElem? (i := 1) rfl)
theorem cd_181_3 : mt_cd 181 3 = some (.lshr) := mt_cd_of (q := (3, .lshr, 1)) mq_181 ci_181 (List.mem_of_getElem? (i := 2) rfl)
theorem cd_181_4 : mt_cd 181 4 = some (.lstore 4) := mt_cd_of (q := (4, .lstore 4, 2)) mq_181 ci_181 (List.mem_of_getElem? (i := 3) rfl)
theorem cd_181_6 : mt_cd 181 6 = some (.lload_n 0) := mt_cd_of (q := (6, .lload_n 0, 1)) mq_181 ci_181 (List.mem_of_getElem? (i := 4) rfl)
theorem cd_181_7 : mt_cd 181 7 = some (.ldc2_w 138) := mt_cd_of (q := (7, .ldc2_w 138, 3)) mq_181 ci_181 (List.mem_of_getElem? (i := 5) rfl)
theorem cd_181_10 : mt_cd 181 10 = some (.land) := mt_cd_of (q := (10, .land, 1)) mq_181 ci_181 (List.mem_of_getElem? (i := 6) rfl)
theorem cd_181_11 : mt_cd 181 11 = some (.lstore 6) := mt_cd_of (q := (11, .lstore 6, 2)) mq_181 ci_181 (List.mem_of_getElem? (i := 7) rfl)
theorem cd_181_13 : mt_cd 181 13 = some (.lload_n 2) := mt_cd_of (q := (13, .lload_n 2, 1)) mq_181 ci_181 (List.mem_of_getElem? (i := 8) rfl)
theorem cd_181_14 : mt_cd 181 14 = some (.bipush 32) := mt_cd_of (q := (14, .bipush 32, 2)) mq_181 ci_181 (List.mem_of_getElem? (i := 9) rfl)
theorem cd_181_16 : mt_cd 181 16 = some (.lshr) := mt_cd_of (q := (16, .lshr, 1)) mq_181 ci_181 (List.mem_of_getElem? (i := 10) rfl)
theorem cd_181_17 : mt_cd 181 17 = some (.lstore 8) := mt_cd_of (q := (17, .lstore 8, 2)) mq_181 ci_181 (List.mem_of_getElem? (i := 11) rfl)
theorem cd_181_19 : mt_cd 181 19 = some (.lload_n 2) := mt_cd_of (q := (19, .lload_n 2, 1)) mq_181 ci_181 (List.mem_of_getElem? (i := 12) rfl)
theorem cd_181_20 : mt_cd 181 20 = some (.ldc2_w 138) := mt_cd_of (q := (20, .ldc2_w 138, 3)) mq_181 ci_181 (List.mem_of_getElem? (i := 13) rfl)
theorem cd_181_23 : mt_cd 181 23 = some (.land) := mt_cd_of (q := (23, .land, 1)) mq_181 ci_181 (List.mem_of_getElem? (i := 14) rfl)
theorem cd_181_24 : mt_cd 181 24 = some (.lstore 10) := mt_cd_of (q := (24, .lstore 10, 2)) mq_181 ci_181 (List.mem_of_getElem? (i := 15) rfl)
theorem cd_181_26 : mt_cd 181 26 = some (.lload 6) := mt_cd_of (q := (26, .lload 6, 2)) mq_181 ci_181 (List.mem_of_getElem? (i := 16) rfl)
theorem cd_181_28 : mt_cd 181 28 = some (.lload 10) := mt_cd_of (q := (28, .lload 10, 2)) mq_181 ci_181 (List.mem_of_getElem? (i := 17) rfl)
theorem cd_181_30 : mt_cd 181 30 = some (.lmul) := mt_cd_of (q := (30, .lmul, 1)) mq_181 ci_181 (List.mem_of_getElem? (i := 18) rfl)
theorem cd_181_31 : mt_cd 181 31 = some (.lstore 12) := mt_cd_of (q := (31, .lstore 12, 2)) mq_181 ci_181 (List.mem_of_getElem? (i := 19) rfl)
theorem cd_181_33 : mt_cd 181 33 = some (.lload 4) := mt_cd_of (q := (33, .lload 4, 2)) mq_181 ci_181 (List.mem_of_getElem? (i := 20) rfl)
theorem cd_181_35 : mt_cd 181 35 = some (.lload 10) := mt_cd_of (q := (35, .lload 10, 2)) mq_181 ci_181 (List.mem_of_getElem? (i := 21) rfl)
theorem cd_181_37 : mt_cd 181 37 = some (.lmul) := mt_cd_of (q := (37, .lmul, 1)) mq_181 ci_181 (List.mem_of_getElem? (i := 22) rfl)
theorem cd_181_38 : mt_cd 181 38 = some (.lload 12) := mt_cd_of (q := (38, .lload 12, 2)) mq_181 ci_181 (List.mem_of_getElem? (i := 23) rfl)
theorem cd_181_40 : mt_cd 181 40 = some (.bipush 32) := mt_cd_of (q := (40, .bipush 32, 2)) mq_181 ci_181 (List.mem_of_getElem? (i := 24) rfl)
theorem cd_181_42 : mt_cd 181 42 = some (.lushr) := mt_cd_of (q := (42, .lushr, 1)) mq_181 ci_181 (List.mem_of_getElem? (i := 25) rfl)
theorem cd_181_43 : mt_cd 181 43 = some (.ladd) := mt_cd_of (q := (43, .ladd, 1)) mq_181 ci_181 (List.mem_of_getElem? (i := 26) rfl)
theorem cd_181_44 : mt_cd 181 44 = some (.lstore 14) := mt_cd_of (q := (44, .lstore 14, 2)) mq_181 ci_181 (List.mem_of_getElem? (i := 27) rfl)
theorem cd_181_46 : mt_cd 181 46 = some (.lload 14) := mt_cd_of (q := (46, .lload 14, 2)) mq_181 ci_181 (List.mem_of_getElem? (i := 28) rfl)
theorem cd_181_48 : mt_cd 181 48 = some (.ldc2_w 138) := mt_cd_of (q := (48, .ldc2_w 138, 3)) mq_181 ci_181 (List.mem_of_getElem? (i := 29) rfl)
theorem cd_181_51 : mt_cd 181 51 = some (.land) := mt_cd_of (q := (51, .land, 1)) mq_181 ci_181 (List.mem_of_getElem? (i := 30) rfl)
theorem cd_181_52 : mt_cd 181 52 = some (.lstore 16) := mt_cd_of (q := (52, .lstore 16, 2)) mq_181 ci_181 (List.mem_of_getElem? (i := 31) rfl)
theorem cd_181_54 : mt_cd 181 54 = some (.lload 14) := mt_cd_of (q := (54, .lload 14, 2)) mq_181 ci_181 (List.mem_of_getElem? (i := 32) rfl)
theorem cd_181_56 : mt_cd 181 56 = some (.bipush 32) := mt_cd_of (q := (56, .bipush 32, 2)) mq_181 ci_181 (List.mem_of_getElem? (i := 33) rfl)
theorem cd_181_58 : mt_cd 181 58 = some (.lshr) := mt_cd_of (q := (58, .lshr, 1)) mq_181 ci_181 (List.mem_of_getElem? (i := 34) rfl)
theorem cd_181_59 : mt_cd 181 59 = some (.lstore 18) := mt_cd_of (q := (59, .lstore 18, 2)) mq_181 ci_181 (List.mem_of_getElem? (i := 35) rfl)
theorem cd_181_61 : mt_cd 181 61 = some (.lload 16) := mt_cd_of (q := (61, .lload 16, 2)) mq_181 ci_181 (List.mem_of_getElem? (i := 36) rfl)
theorem cd_181_63 : mt_cd 181 63 = some (.lload 6) := mt_cd_of (q := (63, .lload 6, 2)) mq_181 ci_181 (List.mem_of_getElem? (i := 37) rfl)
theorem cd_181_65 : mt_cd 181 65 = some (.lload 8) := mt_cd_of (q := (65, .lload 8, 2)) mq_181 ci_181 (List.mem_of_getElem? (i := 38) rfl)
theorem cd_181_67 : mt_cd 181 67 = some (.lmul) := mt_cd_of (q := (67, .lmul, 1)) mq_181 ci_181 (List.mem_of_getElem? (i := 39) rfl)
theorem cd_181_68 : mt_cd 181 68 = some (.ladd) := mt_cd_of (q := (68, .ladd, 1)) mq_181 ci_181 (List.mem_of_getElem? (i := 40) rfl)
theorem cd_181_69 : mt_cd 181 69 = some (.lstore 16) := mt_cd_of (q := (69, .lstore 16, 2)) mq_181 ci_181 (List.mem_of_getElem? (i := 41) rfl)
theorem cd_181_71 : mt_cd 181 71 = some (.lload 4) := mt_cd_of (q := (71, .lload 4, 2)) mq_181 ci_181 (List.mem_of_getElem? (i := 42) rfl)
theorem cd_181_73 : mt_cd 181 73 = some (.lload 8) := mt_cd_of (q := (73, .lload 8, 2)) mq_181 ci_181 (List.mem_of_getElem? (i := 43) rfl)
theorem cd_181_75 : mt_cd 181 75 = some (.lmul) := mt_cd_of (q := (75, .lmul, 1)) mq_181 ci_181 (List.mem_of_getElem? (i := 44) rfl)
theorem cd_181_76 : mt_cd 181 76 = some (.lload 18) := mt_cd_of (q := (76, .lload 18, 2)) mq_181 ci_181 (List.mem_of_getElem? (i := 45) rfl)
theorem cd_181_78 : mt_cd 181 78 = some (.ladd) := mt_cd_of (q := (78, .ladd, 1)) mq_181 ci_181 (List.mem_of_getElem? (i := 46) rfl)
theorem cd_181_79 : mt_cd 181 79 = some (.lload 16) := mt_cd_of (q := (79, .lload 16, 2)) mq_181 ci_181 (List.mem_of_getElem? (i := 47) rfl)
theorem cd_181_81 : mt_cd 181 81 = some (.bipush 32) := mt_cd_of (q := (81, .bipush 32, 2)) mq_181 ci_181 (List.mem_of_getElem? (i := 48) rfl)
theorem cd_181_83 : mt_cd 181 83 = some (.lshr) := mt_cd_of (q := (83, .lshr, 1)) mq_181 ci_181 (List.mem_of_getElem? (i := 49) rfl)
theorem cd_181_84 : mt_cd 181 84 = some (.ladd) := mt_cd_of (q := (84, .ladd, 1)) mq_181 ci_181 (List.mem_of_getElem? (i := 50) rfl)
theorem cd_181_85 : mt_cd 181 85 = some (.lreturn) := mt_cd_of (q := (85, .lreturn, 1)) mq_181 ci_181 (List.mem_of_getElem? (i := 51) rfl)
theorem b_181_0 {d : Nat} {Q : (Option Value ⊕ Nat) → mi_H → Prop} (n sl : Nat) (f : Nat → mi_C) {l1 : Int64} {l2 : Int64} {o3 : Option Value} {o4 : Option Value} {o5 : Option Value} {o6 : Option Value} {o7 : Option Value} {o8 : Option Value} {o9 : Option Value} {o10 : Option Value} {o11 : Option Value} {o12 : Option Value} {o13 : Option Value} {o14 : Option Value} {o15 : Option Value} {o16 : Option Value} {o17 : Option Value} {o18 : Option Value} (h19 : Q (.inl (some (.long ((((l1 >>> ((32 : Int32).toInt64 &&& 63)) * (l2 >>> ((32 : Int32).toInt64 &&& 63))) + ((((l1 >>> ((32 : Int32).toInt64 &&& 63)) * (l2 &&& 4294967295)) + ((((l1 &&& 4294967295) * (l2 &&& 4294967295)).toUInt64 >>> ((32 : Int32).toInt64.toUInt64 &&& Int64.toUInt64 63)).toInt64)) >>> ((32 : Int32).toInt64 &&& 63))) + ((((((l1 >>> ((32 : Int32).toInt64 &&& 63)) * (l2 &&& 4294967295)) + ((((l1 &&& 4294967295) * (l2 &&& 4294967295)).toUInt64 >>> ((32 : Int32).toInt64.toUInt64 &&& Int64.toUInt64 63)).toInt64)) &&& 4294967295) + ((l1 &&& 4294967295) * (l2 >>> ((32 : Int32).toInt64 &&& 63)))) >>> ((32 : Int32).toInt64 &&& 63)))))) (n, sl, f)) : mi_W d 181 0 [some (.long l1), none, some (.long l2), none, o3, o4, o5, o6, o7, o8, o9, o10, o11, o12, o13, o14, o15, o16, o17, o18] [] (n, sl, f) Q := by
  refine w_lload_n cd_181_0 rfl ?_
  refine w_bipush (v := 32) cd_181_1 (by decide) ?_
  refine w_lshr cd_181_3 ?_
  refine w_lstore (ls' := [some (.long l1), none, some (.long l2), none, some (.long (l1 >>> ((32 : Int32).toInt64 &&& 63))), none, o5, o6, o7, o8, o9, o10, o11, o12, o13, o14, o15, o16, o17, o18]) cd_181_4 (Nat.le_of_ble_eq_true rfl) rfl ?_
  refine w_lload_n cd_181_6 rfl ?_
  refine w_ldc2_w (lv := 4294967295) cd_181_7 (by decide +kernel) ?_
  refine w_land cd_181_10 ?_
  refine w_lstore (ls' := [some (.long l1), none, some (.long l2), none, some (.long (l1 >>> ((32 : Int32).toInt64 &&& 63))), none, some (.long (l1 &&& 4294967295)), none, o7, o8, o9, o10, o11, o12, o13, o14, o15, o16, o17, o18]) cd_181_11 (Nat.le_of_ble_eq_true rfl) rfl ?_
  refine w_lload_n cd_181_13 rfl ?_
  refine w_bipush (v := 32) cd_181_14 (by decide) ?_
  refine w_lshr cd_181_16 ?_
  refine w_lstore (ls' := [some (.long l1), none, some (.long l2), none, some (.long (l1 >>> ((32 : Int32).toInt64 &&& 63))), none, some (.long (l1 &&& 4294967295)), none, some (.long (l2 >>> ((32 : Int32).toInt64 &&& 63))), none, o9, o10, o11, o12, o13, o14, o15, o16, o17, o18]) cd_181_17 (Nat.le_of_ble_eq_true rfl) rfl ?_
  refine w_lload_n cd_181_19 rfl ?_
  refine w_ldc2_w (lv := 4294967295) cd_181_20 (by decide +kernel) ?_
  refine w_land cd_181_23 ?_
  refine w_lstore (ls' := [some (.long l1), none, some (.long l2), none, some (.long (l1 >>> ((32 : Int32).toInt64 &&& 63))), none, some (.long (l1 &&& 4294967295)), none, some (.long (l2 >>> ((32 : Int32).toInt64 &&& 63))), none, some (.long (l2 &&& 4294967295)), none, o11, o12, o13, o14, o15, o16, o17, o18]) cd_181_24 (Nat.le_of_ble_eq_true rfl) rfl ?_
  refine w_lload cd_181_26 rfl ?_
  refine w_lload cd_181_28 rfl ?_
  refine w_lmul cd_181_30 ?_
  refine w_lstore (ls' := [some (.long l1), none, some (.long l2), none, some (.long (l1 >>> ((32 : Int32).toInt64 &&& 63))), none, some (.long (l1 &&& 4294967295)), none, some (.long (l2 >>> ((32 : Int32).toInt64 &&& 63))), none, some (.long (l2 &&& 4294967295)), none, some (.long ((l1 &&& 4294967295) * (l2 &&& 4294967295))), none, o13, o14, o15, o16, o17, o18]) cd_181_31 (Nat.le_of_ble_eq_true rfl) rfl ?_
  refine w_lload cd_181_33 rfl ?_
  refine w_lload cd_181_35 rfl ?_
  refine w_lmul cd_181_37 ?_
  refine w_lload cd_181_38 rfl ?_
  refine w_bipush (v := 32) cd_181_40 (by decide) ?_
  refine w_lushr cd_181_42 ?_
  refine w_ladd cd_181_43 ?_
  refine w_lstore (ls' := [some (.long l1), none, some (.long l2), none, some (.long (l1 >>> ((32 : Int32).toInt64 &&& 63))), none, some (.long (l1 &&& 4294967295)), none, some (.long (l2 >>> ((32 : Int32).toInt64 &&& 63))), none, some (.long (l2 &&& 4294967295)), none, some (.long ((l1 &&& 4294967295) * (l2 &&& 4294967295))), none, some (.long (((l1 >>> ((32 : Int32).toInt64 &&& 63)) * (l2 &&& 4294967295)) + ((((l1 &&& 4294967295) * (l2 &&& 4294967295)).toUInt64 >>> ((32 : Int32).toInt64.toUInt64 &&& Int64.toUInt64 63)).toInt64))), none, o15, o16, o17, o18]) cd_181_44 (Nat.le_of_ble_eq_true rfl) rfl ?_
  refine w_lload cd_181_46 rfl ?_
  refine w_ldc2_w (lv := 4294967295) cd_181_48 (by decide +kernel) ?_
  refine w_land cd_181_51 ?_
  refine w_lstore (ls' := [some (.long l1), none, some (.long l2), none, some (.long (l1 >>> ((32 : Int32).toInt64 &&& 63))), none, some (.long (l1 &&& 4294967295)), none, some (.long (l2 >>> ((32 : Int32).toInt64 &&& 63))), none, some (.long (l2 &&& 4294967295)), none, some (.long ((l1 &&& 4294967295) * (l2 &&& 4294967295))), none, some (.long (((l1 >>> ((32 : Int32).toInt64 &&& 63)) * (l2 &&& 4294967295)) + ((((l1 &&& 4294967295) * (l2 &&& 4294967295)).toUInt64 >>> ((32 : Int32).toInt64.toUInt64 &&& Int64.toUInt64 63)).toInt64))), none, some (.long ((((l1 >>> ((32 : Int32).toInt64 &&& 63)) * (l2 &&& 4294967295)) + ((((l1 &&& 4294967295) * (l2 &&& 4294967295)).toUInt64 >>> ((32 : Int32).toInt64.toUInt64 &&& Int64.toUInt64 63)).toInt64)) &&& 4294967295)), none, o17, o18]) cd_181_52 (Nat.le_of_ble_eq_true rfl) rfl ?_
  refine w_lload cd_181_54 rfl ?_
  refine w_bipush (v := 32) cd_181_56 (by decide) ?_
  refine w_lshr cd_181_58 ?_
  refine w_lstore (ls' := [some (.long l1), none, some (.long l2), none, some (.long (l1 >>> ((32 : Int32).toInt64 &&& 63))), none, some (.long (l1 &&& 4294967295)), none, some (.long (l2 >>> ((32 : Int32).toInt64 &&& 63))), none, some (.long (l2 &&& 4294967295)), none, some (.long ((l1 &&& 4294967295) * (l2 &&& 4294967295))), none, some (.long (((l1 >>> ((32 : Int32).toInt64 &&& 63)) * (l2 &&& 4294967295)) + ((((l1 &&& 4294967295) * (l2 &&& 4294967295)).toUInt64 >>> ((32 : Int32).toInt64.toUInt64 &&& Int64.toUInt64 63)).toInt64))), none, some (.long ((((l1 >>> ((32 : Int32).toInt64 &&& 63)) * (l2 &&& 4294967295)) + ((((l1 &&& 4294967295) * (l2 &&& 4294967295)).toUInt64 >>> ((32 : Int32).toInt64.toUInt64 &&& Int64.toUInt64 63)).toInt64)) &&& 4294967295)), none, some (.long ((((l1 >>> ((32 : Int32).toInt64 &&& 63)) * (l2 &&& 4294967295)) + ((((l1 &&& 4294967295) * (l2 &&& 4294967295)).toUInt64 >>> ((32 : Int32).toInt64.toUInt64 &&& Int64.toUInt64 63)).toInt64)) >>> ((32 : Int32).toInt64 &&& 63))), none]) cd_181_59 (Nat.le_of_ble_eq_true rfl) rfl ?_
  refine w_lload cd_181_61 rfl ?_
  refine w_lload cd_181_63 rfl ?_
  refine w_lload cd_181_65 rfl ?_
  refine w_lmul cd_181_67 ?_
  refine w_ladd cd_181_68 ?_
  refine w_lstore (ls' := [some (.long l1), none, some (.long l2), none, some (.long (l1 >>> ((32 : Int32).toInt64 &&& 63))), none, some (.long (l1 &&& 4294967295)), none, some (.long (l2 >>> ((32 : Int32).toInt64 &&& 63))), none, some (.long (l2 &&& 4294967295)), none, some (.long ((l1 &&& 4294967295) * (l2 &&& 4294967295))), none, some (.long (((l1 >>> ((32 : Int32).toInt64 &&& 63)) * (l2 &&& 4294967295)) + ((((l1 &&& 4294967295) * (l2 &&& 4294967295)).toUInt64 >>> ((32 : Int32).toInt64.toUInt64 &&& Int64.toUInt64 63)).toInt64))), none, some (.long (((((l1 >>> ((32 : Int32).toInt64 &&& 63)) * (l2 &&& 4294967295)) + ((((l1 &&& 4294967295) * (l2 &&& 4294967295)).toUInt64 >>> ((32 : Int32).toInt64.toUInt64 &&& Int64.toUInt64 63)).toInt64)) &&& 4294967295) + ((l1 &&& 4294967295) * (l2 >>> ((32 : Int32).toInt64 &&& 63))))), none, some (.long ((((l1 >>> ((32 : Int32).toInt64 &&& 63)) * (l2 &&& 4294967295)) + ((((l1 &&& 4294967295) * (l2 &&& 4294967295)).toUInt64 >>> ((32 : Int32).toInt64.toUInt64 &&& Int64.toUInt64 63)).toInt64)) >>> ((32 : Int32).toInt64 &&& 63))), none]) cd_181_69 (Nat.le_of_ble_eq_true rfl) rfl ?_
  refine w_lload cd_181_71 rfl ?_
  refine w_lload cd_181_73 rfl ?_
  refine w_lmul cd_181_75 ?_
  refine w_lload cd_181_76 rfl ?_
  refine w_ladd cd_181_78 ?_
  refine w_lload cd_181_79 rfl ?_
  refine w_bipush (v := 32) cd_181_81 (by decide) ?_
  refine w_lshr cd_181_83 ?_
  refine w_ladd cd_181_84 ?_
  exact w_lreturn cd_181_85 (by decide +kernel) h19
end
