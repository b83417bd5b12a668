section
/-! MarloweHostModel.feed(IIIII)I -/
theorem cd_138_0 : mt_cd 138 0 = some (.aload_n 0) := by decide +kernel
theorem cd_138_1 : mt_cd 138 1 = some (.iconst 0) := by decide +kernel
theorem cd_138_2 : mt_cd 138 2 = some (.putfield 248) := by decide +kernel
theorem cd_138_5 : mt_cd 138 5 = some (.aload_n 0) := by decide +kernel
theorem cd_138_6 : mt_cd 138 6 = some (.aload_n 0) := by decide +kernel
theorem cd_138_7 : mt_cd 138 7 = some (.getfield 251) := by decide +kernel
theorem cd_138_10 : mt_cd 138 10 = some (.bipush 20) := by decide +kernel
theorem cd_138_12 : mt_cd 138 12 = some (.iadd) := by decide +kernel
theorem cd_138_13 : mt_cd 138 13 = some (.sipush 8200) := by decide +kernel
theorem cd_138_16 : mt_cd 138 16 = some (.if_icmp .le 7) := by decide +kernel
theorem cd_138_19 : mt_cd 138 19 = some (.iconst 1) := by decide +kernel
theorem cd_138_20 : mt_cd 138 20 = some (.goto 4) := by decide +kernel
theorem cd_138_23 : mt_cd 138 23 = some (.iconst 0) := by decide +kernel
theorem cd_138_24 : mt_cd 138 24 = some (.iconst 1) := by decide +kernel
theorem cd_138_25 : mt_cd 138 25 = some (.invokevirtual 254) := by decide +kernel
theorem cd_138_28 : mt_cd 138 28 = some (.ifCond .eq 5) := by decide +kernel
theorem cd_138_31 : mt_cd 138 31 = some (.iconst 0) := by decide +kernel
theorem cd_138_32 : mt_cd 138 32 = some (.ireturn) := by decide +kernel
theorem cd_138_33 : mt_cd 138 33 = some (.iconst 0) := by decide +kernel
theorem cd_138_34 : mt_cd 138 34 = some (.istore 6) := by decide +kernel
theorem cd_138_36 : mt_cd 138 36 = some (.iload 6) := by decide +kernel
theorem cd_138_38 : mt_cd 138 38 = some (.bipush 20) := by decide +kernel
theorem cd_138_40 : mt_cd 138 40 = some (.if_icmp .ge 90) := by decide +kernel
theorem cd_138_43 : mt_cd 138 43 = some (.iload 6) := by decide +kernel
theorem cd_138_45 : mt_cd 138 45 = some (.iconst 4) := by decide +kernel
theorem cd_138_46 : mt_cd 138 46 = some (.if_icmp .ge 7) := by decide +kernel
theorem cd_138_49 : mt_cd 138 49 = some (.iload_n 1) := by decide +kernel
theorem cd_138_50 : mt_cd 138 50 = some (.goto 39) := by decide +kernel
theorem cd_138_53 : mt_cd 138 53 = some (.iload 6) := by decide +kernel
theorem cd_138_55 : mt_cd 138 55 = some (.bipush 8) := by decide +kernel
theorem cd_138_57 : mt_cd 138 57 = some (.if_icmp .ge 7) := by decide +kernel
theorem cd_138_60 : mt_cd 138 60 = some (.iload_n 2) := by decide +kernel
theorem cd_138_61 : mt_cd 138 61 = some (.goto 28) := by decide +kernel
theorem cd_138_64 : mt_cd 138 64 = some (.iload 6) := by decide +kernel
theorem cd_138_66 : mt_cd 138 66 = some (.bipush 12) := by decide +kernel
theorem cd_138_68 : mt_cd 138 68 = some (.if_icmp .ge 7) := by decide +kernel
theorem cd_138_71 : mt_cd 138 71 = some (.iload_n 3) := by decide +kernel
theorem cd_138_72 : mt_cd 138 72 = some (.goto 17) := by decide +kernel
theorem cd_138_75 : mt_cd 138 75 = some (.iload 6) := by decide +kernel
theorem cd_138_77 : mt_cd 138 77 = some (.bipush 16) := by decide +kernel
theorem cd_138_79 : mt_cd 138 79 = some (.if_icmp .ge 8) := by decide +kernel
theorem cd_138_82 : mt_cd 138 82 = some (.iload 4) := by decide +kernel
theorem cd_138_84 : mt_cd 138 84 = some (.goto 5) := by decide +kernel
theorem cd_138_87 : mt_cd 138 87 = some (.iload 5) := by decide +kernel
theorem cd_138_89 : mt_cd 138 89 = some (.istore 7) := by decide +kernel
theorem cd_138_91 : mt_cd 138 91 = some (.aload_n 0) := by decide +kernel
theorem cd_138_92 : mt_cd 138 92 = some (.getfield 16) := by decide +kernel
theorem cd_138_95 : mt_cd 138 95 = some (.aload_n 0) := by decide +kernel
theorem cd_138_96 : mt_cd 138 96 = some (.dup) := by decide +kernel
theorem cd_138_97 : mt_cd 138 97 = some (.getfield 251) := by decide +kernel
theorem cd_138_100 : mt_cd 138 100 = some (.dup_x1) := by decide +kernel
theorem cd_138_101 : mt_cd 138 101 = some (.iconst 1) := by decide +kernel
theorem cd_138_102 : mt_cd 138 102 = some (.iadd) := by decide +kernel
theorem cd_138_103 : mt_cd 138 103 = some (.putfield 251) := by decide +kernel
theorem cd_138_106 : mt_cd 138 106 = some (.iload 7) := by decide +kernel
theorem cd_138_108 : mt_cd 138 108 = some (.bipush 24) := by decide +kernel
theorem cd_138_110 : mt_cd 138 110 = some (.bipush 8) := by decide +kernel
theorem cd_138_112 : mt_cd 138 112 = some (.iload 6) := by decide +kernel
theorem cd_138_114 : mt_cd 138 114 = some (.iconst 3) := by decide +kernel
theorem cd_138_115 : mt_cd 138 115 = some (.iand) := by decide +kernel
theorem cd_138_116 : mt_cd 138 116 = some (.imul) := by decide +kernel
theorem cd_138_117 : mt_cd 138 117 = some (.isub) := by decide +kernel
theorem cd_138_118 : mt_cd 138 118 = some (.iushr) := by decide +kernel
theorem cd_138_119 : mt_cd 138 119 = some (.sipush 255) := by decide +kernel
theorem cd_138_122 : mt_cd 138 122 = some (.iand) := by decide +kernel
theorem cd_138_123 : mt_cd 138 123 = some (.iastore) := by decide +kernel
theorem cd_138_124 : mt_cd 138 124 = some (.iinc 6 1) := by decide +kernel
theorem cd_138_127 : mt_cd 138 127 = some (.goto (-91)) := by decide +kernel
theorem cd_138_130 : mt_cd 138 130 = some (.aload_n 0) := by decide +kernel
theorem cd_138_131 : mt_cd 138 131 = some (.getfield 251) := by decide +kernel
theorem cd_138_134 : mt_cd 138 134 = some (.ireturn) := by decide +kernel
theorem b_138_0 {d : Nat} {Q : (Option Value ⊕ Nat) → mi_H → Prop} (n sl : Nat) (f : Nat → mi_C) {l1 : Nat} {l2 : Int32} {l3 : Int32} {l4 : Int32} {l5 : Int32} {l6 : Int32} {o7 : Option Value} {o8 : Option Value} {fs9 : List Value} {fs13 : List Value} {x16 : Int32} (h10 : f l1 = .inr (12, fs9)) (h11 : l1 < n) (h12 : 0 < fs9.length) (h14 : (va_up f l1 (.inr (12, fs9.set 0 (.int 0)))) l1 = .inr (12, fs13)) (h15 : l1 < n) (h17 : fs13[1]? = some (.int x16)) (h18 : (x16 + 20) ≤ 8200 → mi_W d 138 23 [some (.ref l1), some (.int l2), some (.int l3), some (.int l4), some (.int l5), some (.int l6), o7, o8] [.ref l1] (n, sl, (va_up f l1 (.inr (12, fs9.set 0 (.int 0))))) Q) (h19 : ¬ ((x16 + 20) ≤ 8200) → mi_W d 138 19 [some (.ref l1), some (.int l2), some (.int l3), some (.int l4), some (.int l5), some (.int l6), o7, o8] [.ref l1] (n, sl, (va_up f l1 (.inr (12, fs9.set 0 (.int 0))))) Q) : mi_W d 138 0 [some (.ref l1), some (.int l2), some (.int l3), some (.int l4), some (.int l5), some (.int l6), o7, o8] [] (n, sl, f) Q := by
  refine w_aload_n cd_138_0 rfl ?_
  refine w_iconst (v := 0) cd_138_1 (by decide) ?_
  refine w_putfield (w := .int 0) cd_138_2 (show mt_f 12 248 = some (12, 0) by decide +kernel) h10 h11 ⟨h12, rfl, Or.inl (by decide)⟩ ?_
  refine w_aload_n cd_138_5 rfl ?_
  refine w_aload_n cd_138_6 rfl ?_
  refine w_getfield cd_138_7 (show mt_f 12 251 = some (12, 1) by decide +kernel) h14 h15 h17 ?_
  refine w_bipush (v := 20) cd_138_10 (by decide) ?_
  refine w_iadd cd_138_12 ?_
  refine w_sipush (v := 8200) cd_138_13 (by decide) ?_
  exact w_if_icmple cd_138_16 (by decide) h18 h19
theorem b_138_19 {d : Nat} {Q : (Option Value ⊕ Nat) → mi_H → Prop} (n sl : Nat) (f : Nat → mi_C) {l1 : Nat} {l2 : Int32} {l3 : Int32} {l4 : Int32} {l5 : Int32} {l6 : Int32} {o7 : Option Value} {o8 : Option Value} {s9 : Nat} (h10 : mi_W d 138 24 [some (.ref l1), some (.int l2), some (.int l3), some (.int l4), some (.int l5), some (.int l6), o7, o8] [.int 1, .ref s9] (n, sl, f) Q) : mi_W d 138 19 [some (.ref l1), some (.int l2), some (.int l3), some (.int l4), some (.int l5), some (.int l6), o7, o8] [.ref s9] (n, sl, f) Q := by
  refine w_iconst (v := 1) cd_138_19 (by decide) ?_
  exact w_goto cd_138_20 (by decide) h10
theorem b_138_23 {d : Nat} {Q : (Option Value ⊕ Nat) → mi_H → Prop} (n sl : Nat) (f : Nat → mi_C) {l1 : Nat} {l2 : Int32} {l3 : Int32} {l4 : Int32} {l5 : Int32} {l6 : Int32} {o7 : Option Value} {o8 : Option Value} {s9 : Nat} (h10 : mi_W d 138 24 [some (.ref l1), some (.int l2), some (.int l3), some (.int l4), some (.int l5), some (.int l6), o7, o8] [.int 0, .ref s9] (n, sl, f) Q) : mi_W d 138 23 [some (.ref l1), some (.int l2), some (.int l3), some (.int l4), some (.int l5), some (.int l6), o7, o8] [.ref s9] (n, sl, f) Q := by
  refine w_iconst (v := 0) cd_138_23 (by decide) ?_
  exact h10
theorem b_138_24 {d : Nat} {Q : (Option Value ⊕ Nat) → mi_H → Prop} (n sl : Nat) (f : Nat → mi_C) {l1 : Nat} {l2 : Int32} {l3 : Int32} {l4 : Int32} {l5 : Int32} {l6 : Int32} {o7 : Option Value} {o8 : Option Value} {s9 : Int32} {s10 : Nat} {fs11 : List Value} (h12 : f s10 = .inr (12, fs11)) (h13 : s10 < n) (h14 : mi_W d 139 0 (mi_en 3 [.ref s10, .int s9, .int 1]) [] (n, sl, f) (mi_Kc d 138 25 [some (.ref l1), some (.int l2), some (.int l3), some (.int l4), some (.int l5), some (.int l6), o7, o8] [] Q)) : mi_W (d + 1) 138 24 [some (.ref l1), some (.int l2), some (.int l3), some (.int l4), some (.int l5), some (.int l6), o7, o8] [.int s9, .ref s10] (n, sl, f) Q := by
  refine w_iconst (v := 1) cd_138_24 (by decide) ?_
  exact w_invokevirtual cd_138_25 (show mt_m 12 254 = some (139, 0) by decide +kernel) (rest := []) rfl (as := [.ref s10, .int s9, .int 1]) rfl h12 (Or.inl h13) ⟨Nat.le_of_ble_eq_true rfl, Nat.le_of_ble_eq_true rfl, Nat.le_of_ble_eq_true rfl⟩ h14
theorem b_138_28 {d : Nat} {Q : (Option Value ⊕ Nat) → mi_H → Prop} (n sl : Nat) (f : Nat → mi_C) {l1 : Nat} {l2 : Int32} {l3 : Int32} {l4 : Int32} {l5 : Int32} {l6 : Int32} {o7 : Option Value} {o8 : Option Value} {s9 : Int32} (h10 : s9 = (0 : Int32) → mi_W d 138 33 [some (.ref l1), some (.int l2), some (.int l3), some (.int l4), some (.int l5), some (.int l6), o7, o8] [] (n, sl, f) Q) (h11 : ¬ (s9 = (0 : Int32)) → mi_W d 138 31 [some (.ref l1), some (.int l2), some (.int l3), some (.int l4), some (.int l5), some (.int l6), o7, o8] [] (n, sl, f) Q) : mi_W d 138 28 [some (.ref l1), some (.int l2), some (.int l3), some (.int l4), some (.int l5), some (.int l6), o7, o8] [.int s9] (n, sl, f) Q := by
  exact w_ifeq cd_138_28 (by decide) h10 h11
theorem b_138_31 {d : Nat} {Q : (Option Value ⊕ Nat) → mi_H → Prop} (n sl : Nat) (f : Nat → mi_C) {l1 : Nat} {l2 : Int32} {l3 : Int32} {l4 : Int32} {l5 : Int32} {l6 : Int32} {o7 : Option Value} {o8 : Option Value} (h9 : Q (.inl (some (.int 0))) (n, sl, f)) : mi_W d 138 31 [some (.ref l1), some (.int l2), some (.int l3), some (.int l4), some (.int l5), some (.int l6), o7, o8] [] (n, sl, f) Q := by
  refine w_iconst (v := 0) cd_138_31 (by decide) ?_
  exact w_ireturn_i cd_138_32 (by decide +kernel) h9
theorem b_138_33 {d : Nat} {Q : (Option Value ⊕ Nat) → mi_H → Prop} (n sl : Nat) (f : Nat → mi_C) {l1 : Nat} {l2 : Int32} {l3 : Int32} {l4 : Int32} {l5 : Int32} {l6 : Int32} {o7 : Option Value} {o8 : Option Value} (h9 : mi_W d 138 36 [some (.ref l1), some (.int l2), some (.int l3), some (.int l4), some (.int l5), some (.int l6), some (.int 0), o8] [] (n, sl, f) Q) : mi_W d 138 33 [some (.ref l1), some (.int l2), some (.int l3), some (.int l4), some (.int l5), some (.int l6), o7, o8] [] (n, sl, f) Q := by
  refine w_iconst (v := 0) cd_138_33 (by decide) ?_
  refine w_istore (ls' := [some (.ref l1), some (.int l2), some (.int l3), some (.int l4), some (.int l5), some (.int l6), some (.int 0), o8]) cd_138_34 (Nat.le_of_ble_eq_true rfl) rfl ?_
  exact h9
theorem b_138_36 {d : Nat} {Q : (Option Value ⊕ Nat) → mi_H → Prop} (n sl : Nat) (f : Nat → mi_C) {l1 : Nat} {l2 : Int32} {l3 : Int32} {l4 : Int32} {l5 : Int32} {l6 : Int32} {l7 : Int32} {o8 : Option Value} (h9 : 20 ≤ l7 → mi_W d 138 130 [some (.ref l1), some (.int l2), some (.int l3), some (.int l4), some (.int l5), some (.int l6), some (.int l7), o8] [] (n, sl, f) Q) (h10 : ¬ (20 ≤ l7) → mi_W d 138 43 [some (.ref l1), some (.int l2), some (.int l3), some (.int l4), some (.int l5), some (.int l6), some (.int l7), o8] [] (n, sl, f) Q) : mi_W d 138 36 [some (.ref l1), some (.int l2), some (.int l3), some (.int l4), some (.int l5), some (.int l6), some (.int l7), o8] [] (n, sl, f) Q := by
  refine w_iload cd_138_36 rfl ?_
  refine w_bipush (v := 20) cd_138_38 (by decide) ?_
  exact w_if_icmpge cd_138_40 (by decide) h9 h10
theorem b_138_43 {d : Nat} {Q : (Option Value ⊕ Nat) → mi_H → Prop} (n sl : Nat) (f : Nat → mi_C) {l1 : Nat} {l2 : Int32} {l3 : Int32} {l4 : Int32} {l5 : Int32} {l6 : Int32} {l7 : Int32} {o8 : Option Value} (h9 : 4 ≤ l7 → mi_W d 138 53 [some (.ref l1), some (.int l2), some (.int l3), some (.int l4), some (.int l5), some (.int l6), some (.int l7), o8] [] (n, sl, f) Q) (h10 : ¬ (4 ≤ l7) → mi_W d 138 49 [some (.ref l1), some (.int l2), some (.int l3), some (.int l4), some (.int l5), some (.int l6), some (.int l7), o8] [] (n, sl, f) Q) : mi_W d 138 43 [some (.ref l1), some (.int l2), some (.int l3), some (.int l4), some (.int l5), some (.int l6), some (.int l7), o8] [] (n, sl, f) Q := by
  refine w_iload cd_138_43 rfl ?_
  refine w_iconst (v := 4) cd_138_45 (by decide) ?_
  exact w_if_icmpge cd_138_46 (by decide) h9 h10
theorem b_138_49 {d : Nat} {Q : (Option Value ⊕ Nat) → mi_H → Prop} (n sl : Nat) (f : Nat → mi_C) {l1 : Nat} {l2 : Int32} {l3 : Int32} {l4 : Int32} {l5 : Int32} {l6 : Int32} {l7 : Int32} {o8 : Option Value} (h9 : mi_W d 138 89 [some (.ref l1), some (.int l2), some (.int l3), some (.int l4), some (.int l5), some (.int l6), some (.int l7), o8] [.int l2] (n, sl, f) Q) : mi_W d 138 49 [some (.ref l1), some (.int l2), some (.int l3), some (.int l4), some (.int l5), some (.int l6), some (.int l7), o8] [] (n, sl, f) Q := by
  refine w_iload_n cd_138_49 rfl ?_
  exact w_goto cd_138_50 (by decide) h9
theorem b_138_53 {d : Nat} {Q : (Option Value ⊕ Nat) → mi_H → Prop} (n sl : Nat) (f : Nat → mi_C) {l1 : Nat} {l2 : Int32} {l3 : Int32} {l4 : Int32} {l5 : Int32} {l6 : Int32} {l7 : Int32} {o8 : Option Value} (h9 : 8 ≤ l7 → mi_W d 138 64 [some (.ref l1), some (.int l2), some (.int l3), some (.int l4), some (.int l5), some (.int l6), some (.int l7), o8] [] (n, sl, f) Q) (h10 : ¬ (8 ≤ l7) → mi_W d 138 60 [some (.ref l1), some (.int l2), some (.int l3), some (.int l4), some (.int l5), some (.int l6), some (.int l7), o8] [] (n, sl, f) Q) : mi_W d 138 53 [some (.ref l1), some (.int l2), some (.int l3), some (.int l4), some (.int l5), some (.int l6), some (.int l7), o8] [] (n, sl, f) Q := by
  refine w_iload cd_138_53 rfl ?_
  refine w_bipush (v := 8) cd_138_55 (by decide) ?_
  exact w_if_icmpge cd_138_57 (by decide) h9 h10
theorem b_138_60 {d : Nat} {Q : (Option Value ⊕ Nat) → mi_H → Prop} (n sl : Nat) (f : Nat → mi_C) {l1 : Nat} {l2 : Int32} {l3 : Int32} {l4 : Int32} {l5 : Int32} {l6 : Int32} {l7 : Int32} {o8 : Option Value} (h9 : mi_W d 138 89 [some (.ref l1), some (.int l2), some (.int l3), some (.int l4), some (.int l5), some (.int l6), some (.int l7), o8] [.int l3] (n, sl, f) Q) : mi_W d 138 60 [some (.ref l1), some (.int l2), some (.int l3), some (.int l4), some (.int l5), some (.int l6), some (.int l7), o8] [] (n, sl, f) Q := by
  refine w_iload_n cd_138_60 rfl ?_
  exact w_goto cd_138_61 (by decide) h9
theorem b_138_64 {d : Nat} {Q : (Option Value ⊕ Nat) → mi_H → Prop} (n sl : Nat) (f : Nat → mi_C) {l1 : Nat} {l2 : Int32} {l3 : Int32} {l4 : Int32} {l5 : Int32} {l6 : Int32} {l7 : Int32} {o8 : Option Value} (h9 : 12 ≤ l7 → mi_W d 138 75 [some (.ref l1), some (.int l2), some (.int l3), some (.int l4), some (.int l5), some (.int l6), some (.int l7), o8] [] (n, sl, f) Q) (h10 : ¬ (12 ≤ l7) → mi_W d 138 71 [some (.ref l1), some (.int l2), some (.int l3), some (.int l4), some (.int l5), some (.int l6), some (.int l7), o8] [] (n, sl, f) Q) : mi_W d 138 64 [some (.ref l1), some (.int l2), some (.int l3), some (.int l4), some (.int l5), some (.int l6), some (.int l7), o8] [] (n, sl, f) Q := by
  refine w_iload cd_138_64 rfl ?_
  refine w_bipush (v := 12) cd_138_66 (by decide) ?_
  exact w_if_icmpge cd_138_68 (by decide) h9 h10
theorem b_138_71 {d : Nat} {Q : (Option Value ⊕ Nat) → mi_H → Prop} (n sl : Nat) (f : Nat → mi_C) {l1 : Nat} {l2 : Int32} {l3 : Int32} {l4 : Int32} {l5 : Int32} {l6 : Int32} {l7 : Int32} {o8 : Option Value} (h9 : mi_W d 138 89 [some (.ref l1), some (.int l2), some (.int l3), some (.int l4), some (.int l5), some (.int l6), some (.int l7), o8] [.int l4] (n, sl, f) Q) : mi_W d 138 71 [some (.ref l1), some (.int l2), some (.int l3), some (.int l4), some (.int l5), some (.int l6), some (.int l7), o8] [] (n, sl, f) Q := by
  refine w_iload_n cd_138_71 rfl ?_
  exact w_goto cd_138_72 (by decide) h9
theorem b_138_75 {d : Nat} {Q : (Option Value ⊕ Nat) → mi_H → Prop} (n sl : Nat) (f : Nat → mi_C) {l1 : Nat} {l2 : Int32} {l3 : Int32} {l4 : Int32} {l5 : Int32} {l6 : Int32} {l7 : Int32} {o8 : Option Value} (h9 : 16 ≤ l7 → mi_W d 138 87 [some (.ref l1), some (.int l2), some (.int l3), some (.int l4), some (.int l5), some (.int l6), some (.int l7), o8] [] (n, sl, f) Q) (h10 : ¬ (16 ≤ l7) → mi_W d 138 82 [some (.ref l1), some (.int l2), some (.int l3), some (.int l4), some (.int l5), some (.int l6), some (.int l7), o8] [] (n, sl, f) Q) : mi_W d 138 75 [some (.ref l1), some (.int l2), some (.int l3), some (.int l4), some (.int l5), some (.int l6), some (.int l7), o8] [] (n, sl, f) Q := by
  refine w_iload cd_138_75 rfl ?_
  refine w_bipush (v := 16) cd_138_77 (by decide) ?_
  exact w_if_icmpge cd_138_79 (by decide) h9 h10
theorem b_138_82 {d : Nat} {Q : (Option Value ⊕ Nat) → mi_H → Prop} (n sl : Nat) (f : Nat → mi_C) {l1 : Nat} {l2 : Int32} {l3 : Int32} {l4 : Int32} {l5 : Int32} {l6 : Int32} {l7 : Int32} {o8 : Option Value} (h9 : mi_W d 138 89 [some (.ref l1), some (.int l2), some (.int l3), some (.int l4), some (.int l5), some (.int l6), some (.int l7), o8] [.int l5] (n, sl, f) Q) : mi_W d 138 82 [some (.ref l1), some (.int l2), some (.int l3), some (.int l4), some (.int l5), some (.int l6), some (.int l7), o8] [] (n, sl, f) Q := by
  refine w_iload cd_138_82 rfl ?_
  exact w_goto cd_138_84 (by decide) h9
theorem b_138_87 {d : Nat} {Q : (Option Value ⊕ Nat) → mi_H → Prop} (n sl : Nat) (f : Nat → mi_C) {l1 : Nat} {l2 : Int32} {l3 : Int32} {l4 : Int32} {l5 : Int32} {l6 : Int32} {l7 : Int32} {o8 : Option Value} (h9 : mi_W d 138 89 [some (.ref l1), some (.int l2), some (.int l3), some (.int l4), some (.int l5), some (.int l6), some (.int l7), o8] [.int l6] (n, sl, f) Q) : mi_W d 138 87 [some (.ref l1), some (.int l2), some (.int l3), some (.int l4), some (.int l5), some (.int l6), some (.int l7), o8] [] (n, sl, f) Q := by
  refine w_iload cd_138_87 rfl ?_
  exact h9
theorem b_138_89 {d : Nat} {Q : (Option Value ⊕ Nat) → mi_H → Prop} (n sl : Nat) (f : Nat → mi_C) {l1 : Nat} {l2 : Int32} {l3 : Int32} {l4 : Int32} {l5 : Int32} {l6 : Int32} {l7 : Int32} {o8 : Option Value} {s9 : Int32} {fs10 : List Value} {x13 : Nat} {fs15 : List Value} {x18 : Int32} {fs20 : List Value} (m24 i24 : Nat) (g24 : Nat → Int32) (h11 : f l1 = .inr (12, fs10)) (h12 : l1 < n) (h14 : fs10[5]? = some (.ref x13)) (h16 : f l1 = .inr (12, fs15)) (h17 : l1 < n) (h19 : fs15[1]? = some (.int x18)) (h21 : f l1 = .inr (12, fs20)) (h22 : l1 < n) (h23 : 1 < fs20.length) (h25 : (va_up f l1 (.inr (12, fs20.set 1 (.int (x18 + 1))))) x13 = .inl (0, m24, .inl g24)) (h26 : x13 < n) (h27 : mi_ix x18 m24 i24) (h28 : mi_W d 138 36 [some (.ref l1), some (.int l2), some (.int l3), some (.int l4), some (.int l5), some (.int l6), some (.int (l7 + 1)), some (.int s9)] [] (n, sl, (va_up (va_up f l1 (.inr (12, fs20.set 1 (.int (x18 + 1))))) x13 (.inl (0, m24, .inl (upd g24 i24 (((s9.toUInt32 >>> (((24 - (8 * (l7 &&& 3))) : Int32).toUInt32 &&& Int32.toUInt32 31)).toInt32) &&& 255)))))) Q) : mi_W d 138 89 [some (.ref l1), some (.int l2), some (.int l3), some (.int l4), some (.int l5), some (.int l6), some (.int l7), o8] [.int s9] (n, sl, f) Q := by
  refine w_istore (ls' := [some (.ref l1), some (.int l2), some (.int l3), some (.int l4), some (.int l5), some (.int l6), some (.int l7), some (.int s9)]) cd_138_89 (Nat.le_of_ble_eq_true rfl) rfl ?_
  refine w_aload_n cd_138_91 rfl ?_
  refine w_getfield cd_138_92 (show mt_f 12 16 = some (12, 5) by decide +kernel) h11 h12 h14 ?_
  refine w_aload_n cd_138_95 rfl ?_
  refine w_dup_r cd_138_96 ?_
  refine w_getfield cd_138_97 (show mt_f 12 251 = some (12, 1) by decide +kernel) h16 h17 h19 ?_
  refine w_dup_x1_ir cd_138_100 ?_
  refine w_iconst (v := 1) cd_138_101 (by decide) ?_
  refine w_iadd cd_138_102 ?_
  refine w_putfield (w := .int (x18 + 1)) cd_138_103 (show mt_f 12 251 = some (12, 1) by decide +kernel) h21 h22 ⟨h23, rfl, Or.inl (by decide)⟩ ?_
  refine w_iload cd_138_106 rfl ?_
  refine w_bipush (v := 24) cd_138_108 (by decide) ?_
  refine w_bipush (v := 8) cd_138_110 (by decide) ?_
  refine w_iload cd_138_112 rfl ?_
  refine w_iconst (v := 3) cd_138_114 (by decide) ?_
  refine w_iand cd_138_115 ?_
  refine w_imul cd_138_116 ?_
  refine w_isub cd_138_117 ?_
  refine w_iushr cd_138_118 ?_
  refine w_sipush (v := 255) cd_138_119 (by decide) ?_
  refine w_iand cd_138_122 ?_
  refine w_iastore cd_138_123 h25 h26 h27 ?_
  refine w_iinc (v := 1) (ls' := [some (.ref l1), some (.int l2), some (.int l3), some (.int l4), some (.int l5), some (.int l6), some (.int (l7 + 1)), some (.int s9)]) cd_138_124 rfl (by decide) rfl ?_
  exact w_goto cd_138_127 (by decide) h28
theorem b_138_130 {d : Nat} {Q : (Option Value ⊕ Nat) → mi_H → Prop} (n sl : Nat) (f : Nat → mi_C) {l1 : Nat} {l2 : Int32} {l3 : Int32} {l4 : Int32} {l5 : Int32} {l6 : Int32} {l7 : Int32} {o8 : Option Value} {fs9 : List Value} {x12 : Int32} (h10 : f l1 = .inr (12, fs9)) (h11 : l1 < n) (h13 : fs9[1]? = some (.int x12)) (h14 : Q (.inl (some (.int x12))) (n, sl, f)) : mi_W d 138 130 [some (.ref l1), some (.int l2), some (.int l3), some (.int l4), some (.int l5), some (.int l6), some (.int l7), o8] [] (n, sl, f) Q := by
  refine w_aload_n cd_138_130 rfl ?_
  refine w_getfield cd_138_131 (show mt_f 12 251 = some (12, 1) by decide +kernel) h10 h11 h13 ?_
  exact w_ireturn_i cd_138_134 (by decide +kernel) h14

/-! MarloweHostModel.fails(ZI)Z -/
theorem cd_139_0 : mt_cd 139 0 = some (.iload_n 1) := by decide +kernel
theorem cd_139_1 : mt_cd 139 1 = some (.ifCond .eq 15) := by decide +kernel
theorem cd_139_4 : mt_cd 139 4 = some (.aload_n 0) := by decide +kernel
theorem cd_139_5 : mt_cd 139 5 = some (.getfield 248) := by decide +kernel
theorem cd_139_8 : mt_cd 139 8 = some (.ifCond .ne 8) := by decide +kernel
theorem cd_139_11 : mt_cd 139 11 = some (.aload_n 0) := by decide +kernel
theorem cd_139_12 : mt_cd 139 12 = some (.iload_n 2) := by decide +kernel
theorem cd_139_13 : mt_cd 139 13 = some (.putfield 248) := by decide +kernel
theorem cd_139_16 : mt_cd 139 16 = some (.aload_n 0) := by decide +kernel
theorem cd_139_17 : mt_cd 139 17 = some (.getfield 248) := by decide +kernel
theorem cd_139_20 : mt_cd 139 20 = some (.ifCond .eq 7) := by decide +kernel
theorem cd_139_23 : mt_cd 139 23 = some (.iconst 1) := by decide +kernel
theorem cd_139_24 : mt_cd 139 24 = some (.goto 4) := by decide +kernel
theorem cd_139_27 : mt_cd 139 27 = some (.iconst 0) := by decide +kernel
theorem cd_139_28 : mt_cd 139 28 = some (.ireturn) := by decide +kernel
theorem b_139_0 {d : Nat} {Q : (Option Value ⊕ Nat) → mi_H → Prop} (n sl : Nat) (f : Nat → mi_C) {l1 : Nat} {l2 : Int32} {l3 : Int32} (h4 : l2 = (0 : Int32) → mi_W d 139 16 [some (.ref l1), some (.int l2), some (.int l3)] [] (n, sl, f) Q) (h5 : ¬ (l2 = (0 : Int32)) → mi_W d 139 4 [some (.ref l1), some (.int l2), some (.int l3)] [] (n, sl, f) Q) : mi_W d 139 0 [some (.ref l1), some (.int l2), some (.int l3)] [] (n, sl, f) Q := by
  refine w_iload_n cd_139_0 rfl ?_
  exact w_ifeq cd_139_1 (by decide) h4 h5
theorem b_139_4 {d : Nat} {Q : (Option Value ⊕ Nat) → mi_H → Prop} (n sl : Nat) (f : Nat → mi_C) {l1 : Nat} {l2 : Int32} {l3 : Int32} {fs4 : List Value} {x7 : Int32} (h5 : f l1 = .inr (12, fs4)) (h6 : l1 < n) (h8 : fs4[0]? = some (.int x7)) (h9 : ¬ x7 = (0 : Int32) → mi_W d 139 16 [some (.ref l1), some (.int l2), some (.int l3)] [] (n, sl, f) Q) (h10 : ¬ (¬ x7 = (0 : Int32)) → mi_W d 139 11 [some (.ref l1), some (.int l2), some (.int l3)] [] (n, sl, f) Q) : mi_W d 139 4 [some (.ref l1), some (.int l2), some (.int l3)] [] (n, sl, f) Q := by
  refine w_aload_n cd_139_4 rfl ?_
  refine w_getfield cd_139_5 (show mt_f 12 248 = some (12, 0) by decide +kernel) h5 h6 h8 ?_
  exact w_ifne cd_139_8 (by decide) h9 h10
theorem b_139_11 {d : Nat} {Q : (Option Value ⊕ Nat) → mi_H → Prop} (n sl : Nat) (f : Nat → mi_C) {l1 : Nat} {l2 : Int32} {l3 : Int32} {fs4 : List Value} (h5 : f l1 = .inr (12, fs4)) (h6 : l1 < n) (h7 : 0 < fs4.length) (h8 : mi_W d 139 16 [some (.ref l1), some (.int l2), some (.int l3)] [] (n, sl, (va_up f l1 (.inr (12, fs4.set 0 (.int l3))))) Q) : mi_W d 139 11 [some (.ref l1), some (.int l2), some (.int l3)] [] (n, sl, f) Q := by
  refine w_aload_n cd_139_11 rfl ?_
  refine w_iload_n cd_139_12 rfl ?_
  refine w_putfield (w := .int l3) cd_139_13 (show mt_f 12 248 = some (12, 0) by decide +kernel) h5 h6 ⟨h7, rfl, Or.inl (by decide)⟩ ?_
  exact h8
theorem b_139_16 {d : Nat} {Q : (Option Value ⊕ Nat) → mi_H → Prop} (n sl : Nat) (f : Nat → mi_C) {l1 : Nat} {l2 : Int32} {l3 : Int32} {fs4 : List Value} {x7 : Int32} (h5 : f l1 = .inr (12, fs4)) (h6 : l1 < n) (h8 : fs4[0]? = some (.int x7)) (h9 : x7 = (0 : Int32) → mi_W d 139 27 [some (.ref l1), some (.int l2), some (.int l3)] [] (n, sl, f) Q) (h10 : ¬ (x7 = (0 : Int32)) → mi_W d 139 23 [some (.ref l1), some (.int l2), some (.int l3)] [] (n, sl, f) Q) : mi_W d 139 16 [some (.ref l1), some (.int l2), some (.int l3)] [] (n, sl, f) Q := by
  refine w_aload_n cd_139_16 rfl ?_
  refine w_getfield cd_139_17 (show mt_f 12 248 = some (12, 0) by decide +kernel) h5 h6 h8 ?_
  exact w_ifeq cd_139_20 (by decide) h9 h10
theorem b_139_23 {d : Nat} {Q : (Option Value ⊕ Nat) → mi_H → Prop} (n sl : Nat) (f : Nat → mi_C) {l1 : Nat} {l2 : Int32} {l3 : Int32} (h4 : mi_W d 139 28 [some (.ref l1), some (.int l2), some (.int l3)] [.int 1] (n, sl, f) Q) : mi_W d 139 23 [some (.ref l1), some (.int l2), some (.int l3)] [] (n, sl, f) Q := by
  refine w_iconst (v := 1) cd_139_23 (by decide) ?_
  exact w_goto cd_139_24 (by decide) h4
theorem b_139_27 {d : Nat} {Q : (Option Value ⊕ Nat) → mi_H → Prop} (n sl : Nat) (f : Nat → mi_C) {l1 : Nat} {l2 : Int32} {l3 : Int32} (h4 : mi_W d 139 28 [some (.ref l1), some (.int l2), some (.int l3)] [.int 0] (n, sl, f) Q) : mi_W d 139 27 [some (.ref l1), some (.int l2), some (.int l3)] [] (n, sl, f) Q := by
  refine w_iconst (v := 0) cd_139_27 (by decide) ?_
  exact h4
theorem b_139_28 {d : Nat} {Q : (Option Value ⊕ Nat) → mi_H → Prop} (n sl : Nat) (f : Nat → mi_C) {l1 : Nat} {l2 : Int32} {l3 : Int32} {s4 : Int32} (h5 : s4 = 0 ∨ s4 = 1) (h6 : Q (.inl (some (.int s4))) (n, sl, f)) : mi_W d 139 28 [some (.ref l1), some (.int l2), some (.int l3)] [.int s4] (n, sl, f) Q := by
  exact w_ireturn_z cd_139_28 (by decide +kernel) h5 h6

/-! MarloweHostModel.end(I)I -/
theorem cd_140_0 : mt_cd 140 0 = some (.aload_n 0) := by decide +kernel
theorem cd_140_1 : mt_cd 140 1 = some (.iconst 0) := by decide +kernel
theorem cd_140_2 : mt_cd 140 2 = some (.putfield 248) := by decide +kernel
theorem cd_140_5 : mt_cd 140 5 = some (.aload_n 0) := by decide +kernel
theorem cd_140_6 : mt_cd 140 6 = some (.iload_n 1) := by decide +kernel
theorem cd_140_7 : mt_cd 140 7 = some (.ifCond .lt 18) := by decide +kernel
theorem cd_140_10 : mt_cd 140 10 = some (.iload_n 1) := by decide +kernel
theorem cd_140_11 : mt_cd 140 11 = some (.sipush 8192) := by decide +kernel
theorem cd_140_14 : mt_cd 140 14 = some (.if_icmp .gt 11) := by decide +kernel
theorem cd_140_17 : mt_cd 140 17 = some (.iload_n 1) := by decide +kernel
theorem cd_140_18 : mt_cd 140 18 = some (.aload_n 0) := by decide +kernel
theorem cd_140_19 : mt_cd 140 19 = some (.getfield 251) := by decide +kernel
theorem cd_140_22 : mt_cd 140 22 = some (.if_icmp .le 7) := by decide +kernel
theorem cd_140_25 : mt_cd 140 25 = some (.iconst 1) := by decide +kernel
theorem cd_140_26 : mt_cd 140 26 = some (.goto 4) := by decide +kernel
theorem cd_140_29 : mt_cd 140 29 = some (.iconst 0) := by decide +kernel
theorem cd_140_30 : mt_cd 140 30 = some (.iconst 1) := by decide +kernel
theorem cd_140_31 : mt_cd 140 31 = some (.invokevirtual 254) := by decide +kernel
theorem cd_140_34 : mt_cd 140 34 = some (.ifCond .eq 5) := by decide +kernel
theorem cd_140_37 : mt_cd 140 37 = some (.iconst 0) := by decide +kernel
theorem cd_140_38 : mt_cd 140 38 = some (.ireturn) := by decide +kernel
theorem cd_140_39 : mt_cd 140 39 = some (.aload_n 0) := by decide +kernel
theorem cd_140_40 : mt_cd 140 40 = some (.iconst 0) := by decide +kernel
theorem cd_140_41 : mt_cd 140 41 = some (.putfield 251) := by decide +kernel
theorem cd_140_44 : mt_cd 140 44 = some (.aload_n 0) := by decide +kernel
theorem cd_140_45 : mt_cd 140 45 = some (.iconst (-1)) := by decide +kernel
theorem cd_140_46 : mt_cd 140 46 = some (.putfield 7) := by decide +kernel
theorem cd_140_49 : mt_cd 140 49 = some (.aload_n 0) := by decide +kernel
theorem cd_140_50 : mt_cd 140 50 = some (.iconst (-1)) := by decide +kernel
theorem cd_140_51 : mt_cd 140 51 = some (.putfield 13) := by decide +kernel
theorem cd_140_54 : mt_cd 140 54 = some (.aload_n 0) := by decide +kernel
theorem cd_140_55 : mt_cd 140 55 = some (.iconst 0) := by decide +kernel
theorem cd_140_56 : mt_cd 140 56 = some (.putfield 258) := by decide +kernel
theorem cd_140_59 : mt_cd 140 59 = some (.aload_n 0) := by decide +kernel
theorem cd_140_60 : mt_cd 140 60 = some (.iload_n 1) := by decide +kernel
theorem cd_140_61 : mt_cd 140 61 = some (.putfield 261) := by decide +kernel
theorem cd_140_64 : mt_cd 140 64 = some (.iconst 0) := by decide +kernel
theorem cd_140_65 : mt_cd 140 65 = some (.istore_n 2) := by decide +kernel
theorem cd_140_66 : mt_cd 140 66 = some (.iload_n 2) := by decide +kernel
theorem cd_140_67 : mt_cd 140 67 = some (.iload_n 1) := by decide +kernel
theorem cd_140_68 : mt_cd 140 68 = some (.if_icmp .ge 57) := by decide +kernel
theorem cd_140_71 : mt_cd 140 71 = some (.aload_n 0) := by decide +kernel
theorem cd_140_72 : mt_cd 140 72 = some (.getfield 20) := by decide +kernel
theorem cd_140_75 : mt_cd 140 75 = some (.iload_n 2) := by decide +kernel
theorem cd_140_76 : mt_cd 140 76 = some (.aload_n 0) := by decide +kernel
theorem cd_140_77 : mt_cd 140 77 = some (.getfield 16) := by decide +kernel
theorem cd_140_80 : mt_cd 140 80 = some (.iload_n 2) := by decide +kernel
theorem cd_140_81 : mt_cd 140 81 = some (.iaload) := by decide +kernel
theorem cd_140_82 : mt_cd 140 82 = some (.iastore) := by decide +kernel
theorem cd_140_83 : mt_cd 140 83 = some (.aload_n 0) := by decide +kernel
theorem cd_140_84 : mt_cd 140 84 = some (.getfield 20) := by decide +kernel
theorem cd_140_87 : mt_cd 140 87 = some (.iload_n 2) := by decide +kernel
theorem cd_140_88 : mt_cd 140 88 = some (.iaload) := by decide +kernel
theorem cd_140_89 : mt_cd 140 89 = some (.bipush 10) := by decide +kernel
theorem cd_140_91 : mt_cd 140 91 = some (.if_icmp .eq 28) := by decide +kernel
theorem cd_140_94 : mt_cd 140 94 = some (.aload_n 0) := by decide +kernel
theorem cd_140_95 : mt_cd 140 95 = some (.getfield 20) := by decide +kernel
theorem cd_140_98 : mt_cd 140 98 = some (.iload_n 2) := by decide +kernel
theorem cd_140_99 : mt_cd 140 99 = some (.iaload) := by decide +kernel
theorem cd_140_100 : mt_cd 140 100 = some (.i2l) := by decide +kernel
theorem cd_140_101 : mt_cd 140 101 = some (.ldc2_w 264) := by decide +kernel
theorem cd_140_104 : mt_cd 140 104 = some (.ldc2_w 266) := by decide +kernel
theorem cd_140_107 : mt_cd 140 107 = some (.invokestatic 268) := by decide +kernel
theorem cd_140_110 : mt_cd 140 110 = some (.ifCond .ne 9) := by decide +kernel
theorem cd_140_113 : mt_cd 140 113 = some (.aload_n 0) := by decide +kernel
theorem cd_140_114 : mt_cd 140 114 = some (.iload_n 2) := by decide +kernel
theorem cd_140_115 : mt_cd 140 115 = some (.invokevirtual 272) := by decide +kernel
theorem cd_140_118 : mt_cd 140 118 = some (.pop) := by decide +kernel
theorem cd_140_119 : mt_cd 140 119 = some (.iinc 2 1) := by decide +kernel
theorem cd_140_122 : mt_cd 140 122 = some (.goto (-56)) := by decide +kernel
theorem cd_140_125 : mt_cd 140 125 = some (.aload_n 0) := by decide +kernel
theorem cd_140_126 : mt_cd 140 126 = some (.getfield 7) := by decide +kernel
theorem cd_140_129 : mt_cd 140 129 = some (.ifCond .ge 7) := by decide +kernel
theorem cd_140_132 : mt_cd 140 132 = some (.aload_n 0) := by decide +kernel
theorem cd_140_133 : mt_cd 140 133 = some (.invokevirtual 276) := by decide +kernel
theorem cd_140_136 : mt_cd 140 136 = some (.aload_n 0) := by decide +kernel
theorem cd_140_137 : mt_cd 140 137 = some (.aload_n 0) := by decide +kernel
theorem cd_140_138 : mt_cd 140 138 = some (.getfield 7) := by decide +kernel
theorem cd_140_141 : mt_cd 140 141 = some (.ifCond .lt 7) := by decide +kernel
theorem cd_140_144 : mt_cd 140 144 = some (.iconst 1) := by decide +kernel
theorem cd_140_145 : mt_cd 140 145 = some (.goto 4) := by decide +kernel
theorem cd_140_148 : mt_cd 140 148 = some (.iconst 0) := by decide +kernel
theorem cd_140_149 : mt_cd 140 149 = some (.iconst 2) := by decide +kernel
theorem cd_140_150 : mt_cd 140 150 = some (.invokevirtual 254) := by decide +kernel
theorem cd_140_153 : mt_cd 140 153 = some (.ifCond .eq 5) := by decide +kernel
theorem cd_140_156 : mt_cd 140 156 = some (.iconst 0) := by decide +kernel
theorem cd_140_157 : mt_cd 140 157 = some (.ireturn) := by decide +kernel
theorem cd_140_158 : mt_cd 140 158 = some (.aload_n 0) := by decide +kernel
theorem cd_140_159 : mt_cd 140 159 = some (.iconst 0) := by decide +kernel
theorem cd_140_160 : mt_cd 140 160 = some (.putfield 13) := by decide +kernel
theorem cd_140_163 : mt_cd 140 163 = some (.aload_n 0) := by decide +kernel
theorem cd_140_164 : mt_cd 140 164 = some (.getfield 147) := by decide +kernel
theorem cd_140_167 : mt_cd 140 167 = some (.invokevirtual 279) := by decide +kernel
theorem cd_140_170 : mt_cd 140 170 = some (.aload_n 0) := by decide +kernel
theorem cd_140_171 : mt_cd 140 171 = some (.getfield 282) := by decide +kernel
theorem cd_140_174 : mt_cd 140 174 = some (.ireturn) := by decide +kernel
theorem b_140_0 {d : Nat} {Q : (Option Value ⊕ Nat) → mi_H → Prop} (n sl : Nat) (f : Nat → mi_C) {l1 : Nat} {l2 : Int32} {o3 : Option Value} {fs4 : List Value} (h5 : f l1 = .inr (12, fs4)) (h6 : l1 < n) (h7 : 0 < fs4.length) (h8 : l2 < (0 : Int32) → mi_W d 140 25 [some (.ref l1), some (.int l2), o3] [.ref l1] (n, sl, (va_up f l1 (.inr (12, fs4.set 0 (.int 0))))) Q) (h9 : ¬ (l2 < (0 : Int32)) → mi_W d 140 10 [some (.ref l1), some (.int l2), o3] [.ref l1] (n, sl, (va_up f l1 (.inr (12, fs4.set 0 (.int 0))))) Q) : mi_W d 140 0 [some (.ref l1), some (.int l2), o3] [] (n, sl, f) Q := by
  refine w_aload_n cd_140_0 rfl ?_
  refine w_iconst (v := 0) cd_140_1 (by decide) ?_
  refine w_putfield (w := .int 0) cd_140_2 (show mt_f 12 248 = some (12, 0) by decide +kernel) h5 h6 ⟨h7, rfl, Or.inl (by decide)⟩ ?_
  refine w_aload_n cd_140_5 rfl ?_
  refine w_iload_n cd_140_6 rfl ?_
  exact w_iflt cd_140_7 (by decide) h8 h9
theorem b_140_10 {d : Nat} {Q : (Option Value ⊕ Nat) → mi_H → Prop} (n sl : Nat) (f : Nat → mi_C) {l1 : Nat} {l2 : Int32} {o3 : Option Value} {s4 : Nat} (h5 : 8192 < l2 → mi_W d 140 25 [some (.ref l1), some (.int l2), o3] [.ref s4] (n, sl, f) Q) (h6 : ¬ (8192 < l2) → mi_W d 140 17 [some (.ref l1), some (.int l2), o3] [.ref s4] (n, sl, f) Q) : mi_W d 140 10 [some (.ref l1), some (.int l2), o3] [.ref s4] (n, sl, f) Q := by
  refine w_iload_n cd_140_10 rfl ?_
  refine w_sipush (v := 8192) cd_140_11 (by decide) ?_
  exact w_if_icmpgt cd_140_14 (by decide) h5 h6
theorem b_140_17 {d : Nat} {Q : (Option Value ⊕ Nat) → mi_H → Prop} (n sl : Nat) (f : Nat → mi_C) {l1 : Nat} {l2 : Int32} {o3 : Option Value} {s4 : Nat} {fs5 : List Value} {x8 : Int32} (h6 : f l1 = .inr (12, fs5)) (h7 : l1 < n) (h9 : fs5[1]? = some (.int x8)) (h10 : l2 ≤ x8 → mi_W d 140 29 [some (.ref l1), some (.int l2), o3] [.ref s4] (n, sl, f) Q) (h11 : ¬ (l2 ≤ x8) → mi_W d 140 25 [some (.ref l1), some (.int l2), o3] [.ref s4] (n, sl, f) Q) : mi_W d 140 17 [some (.ref l1), some (.int l2), o3] [.ref s4] (n, sl, f) Q := by
  refine w_iload_n cd_140_17 rfl ?_
  refine w_aload_n cd_140_18 rfl ?_
  refine w_getfield cd_140_19 (show mt_f 12 251 = some (12, 1) by decide +kernel) h6 h7 h9 ?_
  exact w_if_icmple cd_140_22 (by decide) h10 h11
theorem b_140_25 {d : Nat} {Q : (Option Value ⊕ Nat) → mi_H → Prop} (n sl : Nat) (f : Nat → mi_C) {l1 : Nat} {l2 : Int32} {o3 : Option Value} {s4 : Nat} (h5 : mi_W d 140 30 [some (.ref l1), some (.int l2), o3] [.int 1, .ref s4] (n, sl, f) Q) : mi_W d 140 25 [some (.ref l1), some (.int l2), o3] [.ref s4] (n, sl, f) Q := by
  refine w_iconst (v := 1) cd_140_25 (by decide) ?_
  exact w_goto cd_140_26 (by decide) h5
theorem b_140_29 {d : Nat} {Q : (Option Value ⊕ Nat) → mi_H → Prop} (n sl : Nat) (f : Nat → mi_C) {l1 : Nat} {l2 : Int32} {o3 : Option Value} {s4 : Nat} (h5 : mi_W d 140 30 [some (.ref l1), some (.int l2), o3] [.int 0, .ref s4] (n, sl, f) Q) : mi_W d 140 29 [some (.ref l1), some (.int l2), o3] [.ref s4] (n, sl, f) Q := by
  refine w_iconst (v := 0) cd_140_29 (by decide) ?_
  exact h5
theorem b_140_30 {d : Nat} {Q : (Option Value ⊕ Nat) → mi_H → Prop} (n sl : Nat) (f : Nat → mi_C) {l1 : Nat} {l2 : Int32} {o3 : Option Value} {s4 : Int32} {s5 : Nat} {fs6 : List Value} (h7 : f s5 = .inr (12, fs6)) (h8 : s5 < n) (h9 : mi_W d 139 0 (mi_en 3 [.ref s5, .int s4, .int 1]) [] (n, sl, f) (mi_Kc d 140 31 [some (.ref l1), some (.int l2), o3] [] Q)) : mi_W (d + 1) 140 30 [some (.ref l1), some (.int l2), o3] [.int s4, .ref s5] (n, sl, f) Q := by
  refine w_iconst (v := 1) cd_140_30 (by decide) ?_
  exact w_invokevirtual cd_140_31 (show mt_m 12 254 = some (139, 0) by decide +kernel) (rest := []) rfl (as := [.ref s5, .int s4, .int 1]) rfl h7 (Or.inl h8) ⟨Nat.le_of_ble_eq_true rfl, Nat.le_of_ble_eq_true rfl, Nat.le_of_ble_eq_true rfl⟩ h9
theorem b_140_34 {d : Nat} {Q : (Option Value ⊕ Nat) → mi_H → Prop} (n sl : Nat) (f : Nat → mi_C) {l1 : Nat} {l2 : Int32} {o3 : Option Value} {s4 : Int32} (h5 : s4 = (0 : Int32) → mi_W d 140 39 [some (.ref l1), some (.int l2), o3] [] (n, sl, f) Q) (h6 : ¬ (s4 = (0 : Int32)) → mi_W d 140 37 [some (.ref l1), some (.int l2), o3] [] (n, sl, f) Q) : mi_W d 140 34 [some (.ref l1), some (.int l2), o3] [.int s4] (n, sl, f) Q := by
  exact w_ifeq cd_140_34 (by decide) h5 h6
theorem b_140_37 {d : Nat} {Q : (Option Value ⊕ Nat) → mi_H → Prop} (n sl : Nat) (f : Nat → mi_C) {l1 : Nat} {l2 : Int32} {o3 : Option Value} (h4 : Q (.inl (some (.int 0))) (n, sl, f)) : mi_W d 140 37 [some (.ref l1), some (.int l2), o3] [] (n, sl, f) Q := by
  refine w_iconst (v := 0) cd_140_37 (by decide) ?_
  exact w_ireturn_i cd_140_38 (by decide +kernel) h4
theorem b_140_39 {d : Nat} {Q : (Option Value ⊕ Nat) → mi_H → Prop} (n sl : Nat) (f : Nat → mi_C) {l1 : Nat} {l2 : Int32} {o3 : Option Value} {fs4 : List Value} {fs8 : List Value} {fs12 : List Value} {fs16 : List Value} {fs20 : List Value} (h5 : f l1 = .inr (12, fs4)) (h6 : l1 < n) (h7 : 1 < fs4.length) (h9 : (va_up f l1 (.inr (12, fs4.set 1 (.int 0)))) l1 = .inr (12, fs8)) (h10 : l1 < n) (h11 : 3 < fs8.length) (h13 : (va_up (va_up f l1 (.inr (12, fs4.set 1 (.int 0)))) l1 (.inr (12, fs8.set 3 (.int (-1))))) l1 = .inr (12, fs12)) (h14 : l1 < n) (h15 : 4 < fs12.length) (h17 : (va_up (va_up (va_up f l1 (.inr (12, fs4.set 1 (.int 0)))) l1 (.inr (12, fs8.set 3 (.int (-1))))) l1 (.inr (12, fs12.set 4 (.int (-1))))) l1 = .inr (12, fs16)) (h18 : l1 < n) (h19 : 59 < fs16.length) (h21 : (va_up (va_up (va_up (va_up f l1 (.inr (12, fs4.set 1 (.int 0)))) l1 (.inr (12, fs8.set 3 (.int (-1))))) l1 (.inr (12, fs12.set 4 (.int (-1))))) l1 (.inr (12, fs16.set 59 (.int 0)))) l1 = .inr (12, fs20)) (h22 : l1 < n) (h23 : 2 < fs20.length) (h24 : mi_W d 140 66 [some (.ref l1), some (.int l2), some (.int 0)] [] (n, sl, (va_up (va_up (va_up (va_up (va_up f l1 (.inr (12, fs4.set 1 (.int 0)))) l1 (.inr (12, fs8.set 3 (.int (-1))))) l1 (.inr (12, fs12.set 4 (.int (-1))))) l1 (.inr (12, fs16.set 59 (.int 0)))) l1 (.inr (12, fs20.set 2 (.int l2))))) Q) : mi_W d 140 39 [some (.ref l1), some (.int l2), o3] [] (n, sl, f) Q := by
  refine w_aload_n cd_140_39 rfl ?_
  refine w_iconst (v := 0) cd_140_40 (by decide) ?_
  refine w_putfield (w := .int 0) cd_140_41 (show mt_f 12 251 = some (12, 1) by decide +kernel) h5 h6 ⟨h7, rfl, Or.inl (by decide)⟩ ?_
  refine w_aload_n cd_140_44 rfl ?_
  refine w_iconst (v := (-1)) cd_140_45 (by decide) ?_
  refine w_putfield (w := .int (-1)) cd_140_46 (show mt_f 12 7 = some (12, 3) by decide +kernel) h9 h10 ⟨h11, rfl, Or.inl (by decide)⟩ ?_
  refine w_aload_n cd_140_49 rfl ?_
  refine w_iconst (v := (-1)) cd_140_50 (by decide) ?_
  refine w_putfield (w := .int (-1)) cd_140_51 (show mt_f 12 13 = some (12, 4) by decide +kernel) h13 h14 ⟨h15, rfl, Or.inl (by decide)⟩ ?_
  refine w_aload_n cd_140_54 rfl ?_
  refine w_iconst (v := 0) cd_140_55 (by decide) ?_
  refine w_putfield (w := .int 0) cd_140_56 (show mt_f 12 258 = some (12, 59) by decide +kernel) h17 h18 ⟨h19, rfl, Or.inl (by decide)⟩ ?_
  refine w_aload_n cd_140_59 rfl ?_
  refine w_iload_n cd_140_60 rfl ?_
  refine w_putfield (w := .int l2) cd_140_61 (show mt_f 12 261 = some (12, 2) by decide +kernel) h21 h22 ⟨h23, rfl, Or.inl (by decide)⟩ ?_
  refine w_iconst (v := 0) cd_140_64 (by decide) ?_
  refine w_istore_n (ls' := [some (.ref l1), some (.int l2), some (.int 0)]) cd_140_65 (Nat.le_of_ble_eq_true rfl) rfl ?_
  exact h24
theorem b_140_66 {d : Nat} {Q : (Option Value ⊕ Nat) → mi_H → Prop} (n sl : Nat) (f : Nat → mi_C) {l1 : Nat} {l2 : Int32} {l3 : Int32} (h4 : l2 ≤ l3 → mi_W d 140 125 [some (.ref l1), some (.int l2), some (.int l3)] [] (n, sl, f) Q) (h5 : ¬ (l2 ≤ l3) → mi_W d 140 71 [some (.ref l1), some (.int l2), some (.int l3)] [] (n, sl, f) Q) : mi_W d 140 66 [some (.ref l1), some (.int l2), some (.int l3)] [] (n, sl, f) Q := by
  refine w_iload_n cd_140_66 rfl ?_
  refine w_iload_n cd_140_67 rfl ?_
  exact w_if_icmpge cd_140_68 (by decide) h4 h5
theorem b_140_71 {d : Nat} {Q : (Option Value ⊕ Nat) → mi_H → Prop} (n sl : Nat) (f : Nat → mi_C) {l1 : Nat} {l2 : Int32} {l3 : Int32} {fs4 : List Value} {x7 : Nat} {fs9 : List Value} {x12 : Nat} (m14 i14 : Nat) (g14 : Nat → Int32) (m18 i18 : Nat) (g18 : Nat → Int32) {fs22 : List Value} {x25 : Nat} (m27 i27 : Nat) (g27 : Nat → Int32) (h5 : f l1 = .inr (12, fs4)) (h6 : l1 < n) (h8 : fs4[6]? = some (.ref x7)) (h10 : f l1 = .inr (12, fs9)) (h11 : l1 < n) (h13 : fs9[5]? = some (.ref x12)) (h15 : f x12 = .inl (0, m14, .inl g14)) (h16 : x12 < n ∨ x12 = mi_SC) (h17 : mi_ix l3 m14 i14) (h19 : f x7 = .inl (0, m18, .inl g18)) (h20 : x7 < n) (h21 : mi_ix l3 m18 i18) (h23 : (va_up f x7 (.inl (0, m18, .inl (upd g18 i18 (g14 i14))))) l1 = .inr (12, fs22)) (h24 : l1 < n) (h26 : fs22[6]? = some (.ref x25)) (h28 : (va_up f x7 (.inl (0, m18, .inl (upd g18 i18 (g14 i14))))) x25 = .inl (0, m27, .inl g27)) (h29 : x25 < n ∨ x25 = mi_SC) (h30 : mi_ix l3 m27 i27) (h31 : (g27 i27) = 10 → mi_W d 140 119 [some (.ref l1), some (.int l2), some (.int l3)] [] (n, sl, (va_up f x7 (.inl (0, m18, .inl (upd g18 i18 (g14 i14)))))) Q) (h32 : ¬ ((g27 i27) = 10) → mi_W d 140 94 [some (.ref l1), some (.int l2), some (.int l3)] [] (n, sl, (va_up f x7 (.inl (0, m18, .inl (upd g18 i18 (g14 i14)))))) Q) : mi_W d 140 71 [some (.ref l1), some (.int l2), some (.int l3)] [] (n, sl, f) Q := by
  refine w_aload_n cd_140_71 rfl ?_
  refine w_getfield cd_140_72 (show mt_f 12 20 = some (12, 6) by decide +kernel) h5 h6 h8 ?_
  refine w_iload_n cd_140_75 rfl ?_
  refine w_aload_n cd_140_76 rfl ?_
  refine w_getfield cd_140_77 (show mt_f 12 16 = some (12, 5) by decide +kernel) h10 h11 h13 ?_
  refine w_iload_n cd_140_80 rfl ?_
  refine w_iaload cd_140_81 h15 h16 h17 ?_
  refine w_iastore cd_140_82 h19 h20 h21 ?_
  refine w_aload_n cd_140_83 rfl ?_
  refine w_getfield cd_140_84 (show mt_f 12 20 = some (12, 6) by decide +kernel) h23 h24 h26 ?_
  refine w_iload_n cd_140_87 rfl ?_
  refine w_iaload cd_140_88 h28 h29 h30 ?_
  refine w_bipush (v := 10) cd_140_89 (by decide) ?_
  exact w_if_icmpeq cd_140_91 (by decide) h31 h32
theorem b_140_94 {d : Nat} {Q : (Option Value ⊕ Nat) → mi_H → Prop} (n sl : Nat) (f : Nat → mi_C) {l1 : Nat} {l2 : Int32} {l3 : Int32} {fs4 : List Value} {x7 : Nat} (m9 i9 : Nat) (g9 : Nat → Int32) (h5 : f l1 = .inr (12, fs4)) (h6 : l1 < n) (h8 : fs4[6]? = some (.ref x7)) (h10 : f x7 = .inl (0, m9, .inl g9)) (h11 : x7 < n ∨ x7 = mi_SC) (h12 : mi_ix l3 m9 i9) (h13 : mi_W d 141 0 (mi_en 6 [.long (((g9 i9) : Int32).toInt64), .long 32, .long 126]) [] (n, sl, f) (mi_Kc d 140 107 [some (.ref l1), some (.int l2), some (.int l3)] [] Q)) : mi_W (d + 1) 140 94 [some (.ref l1), some (.int l2), some (.int l3)] [] (n, sl, f) Q := by
  refine w_aload_n cd_140_94 rfl ?_
  refine w_getfield cd_140_95 (show mt_f 12 20 = some (12, 6) by decide +kernel) h5 h6 h8 ?_
  refine w_iload_n cd_140_98 rfl ?_
  refine w_iaload cd_140_99 h10 h11 h12 ?_
  refine w_i2l cd_140_100 ?_
  refine w_ldc2_w (lv := 32) cd_140_101 (by decide +kernel) ?_
  refine w_ldc2_w (lv := 126) cd_140_104 (by decide +kernel) ?_
  exact w_invokestatic cd_140_107 (show mt_m 12 268 = some (141, 4) by decide +kernel) (by decide) (rest := []) rfl (as := [.long (((g9 i9) : Int32).toInt64), .long 32, .long 126]) rfl ⟨Nat.le_of_ble_eq_true rfl, Nat.le_of_ble_eq_true rfl, Nat.le_of_ble_eq_true rfl⟩ h13
theorem b_140_110 {d : Nat} {Q : (Option Value ⊕ Nat) → mi_H → Prop} (n sl : Nat) (f : Nat → mi_C) {l1 : Nat} {l2 : Int32} {l3 : Int32} {s4 : Int32} (h5 : ¬ s4 = (0 : Int32) → mi_W d 140 119 [some (.ref l1), some (.int l2), some (.int l3)] [] (n, sl, f) Q) (h6 : ¬ (¬ s4 = (0 : Int32)) → mi_W d 140 113 [some (.ref l1), some (.int l2), some (.int l3)] [] (n, sl, f) Q) : mi_W d 140 110 [some (.ref l1), some (.int l2), some (.int l3)] [.int s4] (n, sl, f) Q := by
  exact w_ifne cd_140_110 (by decide) h5 h6
theorem b_140_113 {d : Nat} {Q : (Option Value ⊕ Nat) → mi_H → Prop} (n sl : Nat) (f : Nat → mi_C) {l1 : Nat} {l2 : Int32} {l3 : Int32} {fs4 : List Value} (h5 : f l1 = .inr (12, fs4)) (h6 : l1 < n) (h7 : mi_W d 142 0 (mi_en 2 [.ref l1, .int l3]) [] (n, sl, f) (mi_Kc d 140 115 [some (.ref l1), some (.int l2), some (.int l3)] [] Q)) : mi_W (d + 1) 140 113 [some (.ref l1), some (.int l2), some (.int l3)] [] (n, sl, f) Q := by
  refine w_aload_n cd_140_113 rfl ?_
  refine w_iload_n cd_140_114 rfl ?_
  exact w_invokevirtual cd_140_115 (show mt_m 12 272 = some (142, 0) by decide +kernel) (rest := []) rfl (as := [.ref l1, .int l3]) rfl h5 (Or.inl h6) ⟨Nat.le_of_ble_eq_true rfl, Nat.le_of_ble_eq_true rfl, Nat.le_of_ble_eq_true rfl⟩ h7
theorem b_140_118 {d : Nat} {Q : (Option Value ⊕ Nat) → mi_H → Prop} (n sl : Nat) (f : Nat → mi_C) {l1 : Nat} {l2 : Int32} {l3 : Int32} {s4 : Int32} (h5 : mi_W d 140 119 [some (.ref l1), some (.int l2), some (.int l3)] [] (n, sl, f) Q) : mi_W d 140 118 [some (.ref l1), some (.int l2), some (.int l3)] [.int s4] (n, sl, f) Q := by
  refine w_pop_i cd_140_118 ?_
  exact h5
theorem b_140_119 {d : Nat} {Q : (Option Value ⊕ Nat) → mi_H → Prop} (n sl : Nat) (f : Nat → mi_C) {l1 : Nat} {l2 : Int32} {l3 : Int32} (h4 : mi_W d 140 66 [some (.ref l1), some (.int l2), some (.int (l3 + 1))] [] (n, sl, f) Q) : mi_W d 140 119 [some (.ref l1), some (.int l2), some (.int l3)] [] (n, sl, f) Q := by
  refine w_iinc (v := 1) (ls' := [some (.ref l1), some (.int l2), some (.int (l3 + 1))]) cd_140_119 rfl (by decide) rfl ?_
  exact w_goto cd_140_122 (by decide) h4
theorem b_140_125 {d : Nat} {Q : (Option Value ⊕ Nat) → mi_H → Prop} (n sl : Nat) (f : Nat → mi_C) {l1 : Nat} {l2 : Int32} {l3 : Int32} {fs4 : List Value} {x7 : Int32} (h5 : f l1 = .inr (12, fs4)) (h6 : l1 < n) (h8 : fs4[3]? = some (.int x7)) (h9 : (0 : Int32) ≤ x7 → mi_W d 140 136 [some (.ref l1), some (.int l2), some (.int l3)] [] (n, sl, f) Q) (h10 : ¬ ((0 : Int32) ≤ x7) → mi_W d 140 132 [some (.ref l1), some (.int l2), some (.int l3)] [] (n, sl, f) Q) : mi_W d 140 125 [some (.ref l1), some (.int l2), some (.int l3)] [] (n, sl, f) Q := by
  refine w_aload_n cd_140_125 rfl ?_
  refine w_getfield cd_140_126 (show mt_f 12 7 = some (12, 3) by decide +kernel) h5 h6 h8 ?_
  exact w_ifge cd_140_129 (by decide) h9 h10
theorem b_140_132 {d : Nat} {Q : (Option Value ⊕ Nat) → mi_H → Prop} (n sl : Nat) (f : Nat → mi_C) {l1 : Nat} {l2 : Int32} {l3 : Int32} {fs4 : List Value} (h5 : f l1 = .inr (12, fs4)) (h6 : l1 < n) (h7 : mi_W d 143 0 (mi_en 1 [.ref l1]) [] (n, sl, f) (mi_Kc d 140 133 [some (.ref l1), some (.int l2), some (.int l3)] [] Q)) : mi_W (d + 1) 140 132 [some (.ref l1), some (.int l2), some (.int l3)] [] (n, sl, f) Q := by
  refine w_aload_n cd_140_132 rfl ?_
  exact w_invokevirtual cd_140_133 (show mt_m 12 276 = some (143, 0) by decide +kernel) (rest := []) rfl (as := [.ref l1]) rfl h5 (Or.inl h6) ⟨Nat.le_of_ble_eq_true rfl, Nat.le_of_ble_eq_true rfl, Nat.le_of_ble_eq_true rfl⟩ h7
theorem b_140_136 {d : Nat} {Q : (Option Value ⊕ Nat) → mi_H → Prop} (n sl : Nat) (f : Nat → mi_C) {l1 : Nat} {l2 : Int32} {l3 : Int32} {fs4 : List Value} {x7 : Int32} (h5 : f l1 = .inr (12, fs4)) (h6 : l1 < n) (h8 : fs4[3]? = some (.int x7)) (h9 : x7 < (0 : Int32) → mi_W d 140 148 [some (.ref l1), some (.int l2), some (.int l3)] [.ref l1] (n, sl, f) Q) (h10 : ¬ (x7 < (0 : Int32)) → mi_W d 140 144 [some (.ref l1), some (.int l2), some (.int l3)] [.ref l1] (n, sl, f) Q) : mi_W d 140 136 [some (.ref l1), some (.int l2), some (.int l3)] [] (n, sl, f) Q := by
  refine w_aload_n cd_140_136 rfl ?_
  refine w_aload_n cd_140_137 rfl ?_
  refine w_getfield cd_140_138 (show mt_f 12 7 = some (12, 3) by decide +kernel) h5 h6 h8 ?_
  exact w_iflt cd_140_141 (by decide) h9 h10
theorem b_140_144 {d : Nat} {Q : (Option Value ⊕ Nat) → mi_H → Prop} (n sl : Nat) (f : Nat → mi_C) {l1 : Nat} {l2 : Int32} {l3 : Int32} {s4 : Nat} (h5 : mi_W d 140 149 [some (.ref l1), some (.int l2), some (.int l3)] [.int 1, .ref s4] (n, sl, f) Q) : mi_W d 140 144 [some (.ref l1), some (.int l2), some (.int l3)] [.ref s4] (n, sl, f) Q := by
  refine w_iconst (v := 1) cd_140_144 (by decide) ?_
  exact w_goto cd_140_145 (by decide) h5
theorem b_140_148 {d : Nat} {Q : (Option Value ⊕ Nat) → mi_H → Prop} (n sl : Nat) (f : Nat → mi_C) {l1 : Nat} {l2 : Int32} {l3 : Int32} {s4 : Nat} (h5 : mi_W d 140 149 [some (.ref l1), some (.int l2), some (.int l3)] [.int 0, .ref s4] (n, sl, f) Q) : mi_W d 140 148 [some (.ref l1), some (.int l2), some (.int l3)] [.ref s4] (n, sl, f) Q := by
  refine w_iconst (v := 0) cd_140_148 (by decide) ?_
  exact h5
theorem b_140_149 {d : Nat} {Q : (Option Value ⊕ Nat) → mi_H → Prop} (n sl : Nat) (f : Nat → mi_C) {l1 : Nat} {l2 : Int32} {l3 : Int32} {s4 : Int32} {s5 : Nat} {fs6 : List Value} (h7 : f s5 = .inr (12, fs6)) (h8 : s5 < n) (h9 : mi_W d 139 0 (mi_en 3 [.ref s5, .int s4, .int 2]) [] (n, sl, f) (mi_Kc d 140 150 [some (.ref l1), some (.int l2), some (.int l3)] [] Q)) : mi_W (d + 1) 140 149 [some (.ref l1), some (.int l2), some (.int l3)] [.int s4, .ref s5] (n, sl, f) Q := by
  refine w_iconst (v := 2) cd_140_149 (by decide) ?_
  exact w_invokevirtual cd_140_150 (show mt_m 12 254 = some (139, 0) by decide +kernel) (rest := []) rfl (as := [.ref s5, .int s4, .int 2]) rfl h7 (Or.inl h8) ⟨Nat.le_of_ble_eq_true rfl, Nat.le_of_ble_eq_true rfl, Nat.le_of_ble_eq_true rfl⟩ h9
theorem b_140_153 {d : Nat} {Q : (Option Value ⊕ Nat) → mi_H → Prop} (n sl : Nat) (f : Nat → mi_C) {l1 : Nat} {l2 : Int32} {l3 : Int32} {s4 : Int32} (h5 : s4 = (0 : Int32) → mi_W d 140 158 [some (.ref l1), some (.int l2), some (.int l3)] [] (n, sl, f) Q) (h6 : ¬ (s4 = (0 : Int32)) → mi_W d 140 156 [some (.ref l1), some (.int l2), some (.int l3)] [] (n, sl, f) Q) : mi_W d 140 153 [some (.ref l1), some (.int l2), some (.int l3)] [.int s4] (n, sl, f) Q := by
  exact w_ifeq cd_140_153 (by decide) h5 h6
theorem b_140_156 {d : Nat} {Q : (Option Value ⊕ Nat) → mi_H → Prop} (n sl : Nat) (f : Nat → mi_C) {l1 : Nat} {l2 : Int32} {l3 : Int32} (h4 : Q (.inl (some (.int 0))) (n, sl, f)) : mi_W d 140 156 [some (.ref l1), some (.int l2), some (.int l3)] [] (n, sl, f) Q := by
  refine w_iconst (v := 0) cd_140_156 (by decide) ?_
  exact w_ireturn_i cd_140_157 (by decide +kernel) h4
theorem b_140_158 {d : Nat} {Q : (Option Value ⊕ Nat) → mi_H → Prop} (n sl : Nat) (f : Nat → mi_C) {l1 : Nat} {l2 : Int32} {l3 : Int32} {fs4 : List Value} {fs8 : List Value} {x11 : Nat} {fs13 : List Value} (h5 : f l1 = .inr (12, fs4)) (h6 : l1 < n) (h7 : 4 < fs4.length) (h9 : (va_up f l1 (.inr (12, fs4.set 4 (.int 0)))) l1 = .inr (12, fs8)) (h10 : l1 < n) (h12 : fs8[41]? = some (.ref x11)) (h14 : (va_up f l1 (.inr (12, fs4.set 4 (.int 0)))) x11 = .inr (13, fs13)) (h15 : x11 < n) (h16 : mi_W d 169 0 (mi_en 2 [.ref x11]) [] (n, sl, (va_up f l1 (.inr (12, fs4.set 4 (.int 0))))) (mi_Kc d 140 167 [some (.ref l1), some (.int l2), some (.int l3)] [] Q)) : mi_W (d + 1) 140 158 [some (.ref l1), some (.int l2), some (.int l3)] [] (n, sl, f) Q := by
  refine w_aload_n cd_140_158 rfl ?_
  refine w_iconst (v := 0) cd_140_159 (by decide) ?_
  refine w_putfield (w := .int 0) cd_140_160 (show mt_f 12 13 = some (12, 4) by decide +kernel) h5 h6 ⟨h7, rfl, Or.inl (by decide)⟩ ?_
  refine w_aload_n cd_140_163 rfl ?_
  refine w_getfield cd_140_164 (show mt_f 12 147 = some (12, 41) by decide +kernel) h9 h10 h12 ?_
  exact w_invokevirtual cd_140_167 (show mt_m 12 279 = some (169, 0) by decide +kernel) (rest := []) rfl (as := [.ref x11]) rfl h14 (Or.inl h15) ⟨Nat.le_of_ble_eq_true rfl, Nat.le_of_ble_eq_true rfl, Nat.le_of_ble_eq_true rfl⟩ h16
theorem b_140_170 {d : Nat} {Q : (Option Value ⊕ Nat) → mi_H → Prop} (n sl : Nat) (f : Nat → mi_C) {l1 : Nat} {l2 : Int32} {l3 : Int32} {fs4 : List Value} {x7 : Int32} (h5 : f l1 = .inr (12, fs4)) (h6 : l1 < n) (h8 : fs4[21]? = some (.int x7)) (h9 : Q (.inl (some (.int x7))) (n, sl, f)) : mi_W d 140 170 [some (.ref l1), some (.int l2), some (.int l3)] [] (n, sl, f) Q := by
  refine w_aload_n cd_140_170 rfl ?_
  refine w_getfield cd_140_171 (show mt_f 12 282 = some (12, 21) by decide +kernel) h5 h6 h8 ?_
  exact w_ireturn_i cd_140_174 (by decide +kernel) h9

/-! MarloweHostModel.in(JJJ)Z -/
theorem cd_141_0 : mt_cd 141 0 = some (.lload_n 0) := by decide +kernel
theorem cd_141_1 : mt_cd 141 1 = some (.lload_n 2) := by decide +kernel
theorem cd_141_2 : mt_cd 141 2 = some (.lcmp) := by decide +kernel
theorem cd_141_3 : mt_cd 141 3 = some (.ifCond .lt 14) := by decide +kernel
theorem cd_141_6 : mt_cd 141 6 = some (.lload_n 0) := by decide +kernel
theorem cd_141_7 : mt_cd 141 7 = some (.lload 4) := by decide +kernel
theorem cd_141_9 : mt_cd 141 9 = some (.lcmp) := by decide +kernel
theorem cd_141_10 : mt_cd 141 10 = some (.ifCond .gt 7) := by decide +kernel
theorem cd_141_13 : mt_cd 141 13 = some (.iconst 1) := by decide +kernel
theorem cd_141_14 : mt_cd 141 14 = some (.goto 4) := by decide +kernel
theorem cd_141_17 : mt_cd 141 17 = some (.iconst 0) := by decide +kernel
theorem cd_141_18 : mt_cd 141 18 = some (.ireturn) := by decide +kernel
theorem b_141_0 {d : Nat} {Q : (Option Value ⊕ Nat) → mi_H → Prop} (n sl : Nat) (f : Nat → mi_C) {l1 : Int64} {l2 : Int64} {l3 : Int64} (h4 : (lg_cmp l1 l2) < (0 : Int32) → mi_W d 141 17 [some (.long l1), none, some (.long l2), none, some (.long l3), none] [] (n, sl, f) Q) (h5 : ¬ ((lg_cmp l1 l2) < (0 : Int32)) → mi_W d 141 6 [some (.long l1), none, some (.long l2), none, some (.long l3), none] [] (n, sl, f) Q) : mi_W d 141 0 [some (.long l1), none, some (.long l2), none, some (.long l3), none] [] (n, sl, f) Q := by
  refine w_lload_n cd_141_0 rfl ?_
  refine w_lload_n cd_141_1 rfl ?_
  refine w_lcmp cd_141_2 ?_
  exact w_iflt cd_141_3 (by decide) h4 h5
theorem b_141_6 {d : Nat} {Q : (Option Value ⊕ Nat) → mi_H → Prop} (n sl : Nat) (f : Nat → mi_C) {l1 : Int64} {l2 : Int64} {l3 : Int64} (h4 : (0 : Int32) < (lg_cmp l1 l3) → mi_W d 141 17 [some (.long l1), none, some (.long l2), none, some (.long l3), none] [] (n, sl, f) Q) (h5 : ¬ ((0 : Int32) < (lg_cmp l1 l3)) → mi_W d 141 13 [some (.long l1), none, some (.long l2), none, some (.long l3), none] [] (n, sl, f) Q) : mi_W d 141 6 [some (.long l1), none, some (.long l2), none, some (.long l3), none] [] (n, sl, f) Q := by
  refine w_lload_n cd_141_6 rfl ?_
  refine w_lload cd_141_7 rfl ?_
  refine w_lcmp cd_141_9 ?_
  exact w_ifgt cd_141_10 (by decide) h4 h5
theorem b_141_13 {d : Nat} {Q : (Option Value ⊕ Nat) → mi_H → Prop} (n sl : Nat) (f : Nat → mi_C) {l1 : Int64} {l2 : Int64} {l3 : Int64} (h4 : mi_W d 141 18 [some (.long l1), none, some (.long l2), none, some (.long l3), none] [.int 1] (n, sl, f) Q) : mi_W d 141 13 [some (.long l1), none, some (.long l2), none, some (.long l3), none] [] (n, sl, f) Q := by
  refine w_iconst (v := 1) cd_141_13 (by decide) ?_
  exact w_goto cd_141_14 (by decide) h4
theorem b_141_17 {d : Nat} {Q : (Option Value ⊕ Nat) → mi_H → Prop} (n sl : Nat) (f : Nat → mi_C) {l1 : Int64} {l2 : Int64} {l3 : Int64} (h4 : mi_W d 141 18 [some (.long l1), none, some (.long l2), none, some (.long l3), none] [.int 0] (n, sl, f) Q) : mi_W d 141 17 [some (.long l1), none, some (.long l2), none, some (.long l3), none] [] (n, sl, f) Q := by
  refine w_iconst (v := 0) cd_141_17 (by decide) ?_
  exact h4
theorem b_141_18 {d : Nat} {Q : (Option Value ⊕ Nat) → mi_H → Prop} (n sl : Nat) (f : Nat → mi_C) {l1 : Int64} {l2 : Int64} {l3 : Int64} {s4 : Int32} (h5 : s4 = 0 ∨ s4 = 1) (h6 : Q (.inl (some (.int s4))) (n, sl, f)) : mi_W d 141 18 [some (.long l1), none, some (.long l2), none, some (.long l3), none] [.int s4] (n, sl, f) Q := by
  exact w_ireturn_z cd_141_18 (by decide +kernel) h5 h6

/-! MarloweHostModel.bad(I)Z -/
theorem cd_142_0 : mt_cd 142 0 = some (.aload_n 0) := by decide +kernel
theorem cd_142_1 : mt_cd 142 1 = some (.getfield 7) := by decide +kernel
theorem cd_142_4 : mt_cd 142 4 = some (.ifCond .ge 8) := by decide +kernel
theorem cd_142_7 : mt_cd 142 7 = some (.aload_n 0) := by decide +kernel
theorem cd_142_8 : mt_cd 142 8 = some (.iload_n 1) := by decide +kernel
theorem cd_142_9 : mt_cd 142 9 = some (.putfield 7) := by decide +kernel
theorem cd_142_12 : mt_cd 142 12 = some (.iconst 0) := by decide +kernel
theorem cd_142_13 : mt_cd 142 13 = some (.ireturn) := by decide +kernel
theorem b_142_0 {d : Nat} {Q : (Option Value ⊕ Nat) → mi_H → Prop} (n sl : Nat) (f : Nat → mi_C) {l1 : Nat} {l2 : Int32} {fs3 : List Value} {x6 : Int32} (h4 : f l1 = .inr (12, fs3)) (h5 : l1 < n) (h7 : fs3[3]? = some (.int x6)) (h8 : (0 : Int32) ≤ x6 → mi_W d 142 12 [some (.ref l1), some (.int l2)] [] (n, sl, f) Q) (h9 : ¬ ((0 : Int32) ≤ x6) → mi_W d 142 7 [some (.ref l1), some (.int l2)] [] (n, sl, f) Q) : mi_W d 142 0 [some (.ref l1), some (.int l2)] [] (n, sl, f) Q := by
  refine w_aload_n cd_142_0 rfl ?_
  refine w_getfield cd_142_1 (show mt_f 12 7 = some (12, 3) by decide +kernel) h4 h5 h7 ?_
  exact w_ifge cd_142_4 (by decide) h8 h9
theorem b_142_7 {d : Nat} {Q : (Option Value ⊕ Nat) → mi_H → Prop} (n sl : Nat) (f : Nat → mi_C) {l1 : Nat} {l2 : Int32} {fs3 : List Value} (h4 : f l1 = .inr (12, fs3)) (h5 : l1 < n) (h6 : 3 < fs3.length) (h7 : mi_W d 142 12 [some (.ref l1), some (.int l2)] [] (n, sl, (va_up f l1 (.inr (12, fs3.set 3 (.int l2))))) Q) : mi_W d 142 7 [some (.ref l1), some (.int l2)] [] (n, sl, f) Q := by
  refine w_aload_n cd_142_7 rfl ?_
  refine w_iload_n cd_142_8 rfl ?_
  refine w_putfield (w := .int l2) cd_142_9 (show mt_f 12 7 = some (12, 3) by decide +kernel) h4 h5 ⟨h6, rfl, Or.inl (by decide)⟩ ?_
  exact h7
theorem b_142_12 {d : Nat} {Q : (Option Value ⊕ Nat) → mi_H → Prop} (n sl : Nat) (f : Nat → mi_C) {l1 : Nat} {l2 : Int32} (h3 : Q (.inl (some (.int 0))) (n, sl, f)) : mi_W d 142 12 [some (.ref l1), some (.int l2)] [] (n, sl, f) Q := by
  refine w_iconst (v := 0) cd_142_12 (by decide) ?_
  exact w_ireturn_z cd_142_13 (by decide +kernel) (by decide) h3

end
