section
/-! java/lang/String.length()I -/
set_option maxRecDepth 100000 in
theorem mq_150 : mt_q 150 = my_150 := rfl
set_option maxRecDepth 100000 in
theorem ci_150 : mt_inc 0 my_150.cd = true := by decide +kernel
theorem cd_150_0 : mt_cd 150 0 = some (.aload_n 0) := mt_cd_of (q := (0, .aload_n 0, 1)) mq_150 ci_150 (List.mem_of_getElem? (i := 0) rfl)
theorem cd_150_1 : mt_cd 150 1 = some (.getfield 9) := mt_cd_of (q := (1, .getfield 9, 3)) mq_150 ci_150 (List.mem_of_getElem? (i := 1) rfl)
theorem cd_150_4 : mt_cd 150 4 = some (.arraylength) := mt_cd_of (q := (4, .arraylength, 1)) mq_150 ci_150 (List.mem_of_getElem? (i := 2) rfl)
theorem cd_150_5 : mt_cd 150 5 = some (.aload_n 0) := mt_cd_of (q := (5, .aload_n 0, 1)) mq_150 ci_150 (List.mem_of_getElem? (i := 3) rfl)
theorem cd_150_6 : mt_cd 150 6 = some (.invokevirtual 335) := mt_cd_of (q := (6, .invokevirtual 335, 3)) mq_150 ci_150 (List.mem_of_getElem? (i := 4) rfl)
theorem cd_150_9 : mt_cd 150 9 = some (.ishr) := mt_cd_of (q := (9, .ishr, 1)) mq_150 ci_150 (List.mem_of_getElem? (i := 5) rfl)
theorem cd_150_10 : mt_cd 150 10 = some (.ireturn) := mt_cd_of (q := (10, .ireturn, 1)) mq_150 ci_150 (List.mem_of_getElem? (i := 6) rfl)
/-! java/lang/String.coder()B -/
set_option maxRecDepth 100000 in
theorem mq_151 : mt_q 151 = my_151 := rfl
set_option maxRecDepth 100000 in
theorem ci_151 : mt_inc 0 my_151.cd = true := by decide +kernel
theorem cd_151_0 : mt_cd 151 0 = some (.getstatic 38) := mt_cd_of (q := (0, .getstatic 38, 3)) mq_151 ci_151 (List.mem_of_getElem? (i := 0) rfl)
theorem cd_151_3 : mt_cd 151 3 = some (.ifCond .eq 10) := mt_cd_of (q := (3, .ifCond .eq 10, 3)) mq_151 ci_151 (List.mem_of_getElem? (i := 1) rfl)
theorem cd_151_6 : mt_cd 151 6 = some (.aload_n 0) := mt_cd_of (q := (6, .aload_n 0, 1)) mq_151 ci_151 (List.mem_of_getElem? (i := 2) rfl)
theorem cd_151_7 : mt_cd 151 7 = some (.getfield 15) := mt_cd_of (q := (7, .getfield 15, 3)) mq_151 ci_151 (List.mem_of_getElem? (i := 3) rfl)
theorem cd_151_10 : mt_cd 151 10 = some (.goto 4) := mt_cd_of (q := (10, .goto 4, 3)) mq_151 ci_151 (List.mem_of_getElem? (i := 4) rfl)
theorem cd_151_13 : mt_cd 151 13 = some (.iconst 1) := mt_cd_of (q := (13, .iconst 1, 1)) mq_151 ci_151 (List.mem_of_getElem? (i := 5) rfl)
theorem cd_151_14 : mt_cd 151 14 = some (.ireturn) := mt_cd_of (q := (14, .ireturn, 1)) mq_151 ci_151 (List.mem_of_getElem? (i := 6) rfl)
/-! java/lang/String.charAt(I)C -/
set_option maxRecDepth 100000 in
theorem mq_29 : mt_q 29 = my_29 := rfl
set_option maxRecDepth 100000 in
theorem ci_29 : mt_inc 0 my_29.cd = true := by decide +kernel
theorem cd_29_0 : mt_cd 29 0 = some (.aload_n 0) := mt_cd_of (q := (0, .aload_n 0, 1)) mq_29 ci_29 (List.mem_of_getElem? (i := 0) rfl)
theorem cd_29_1 : mt_cd 29 1 = some (.invokevirtual 492) := mt_cd_of (q := (1, .invokevirtual 492, 3)) mq_29 ci_29 (List.mem_of_getElem? (i := 1) rfl)
theorem cd_29_4 : mt_cd 29 4 = some (.ifCond .eq 12) := mt_cd_of (q := (4, .ifCond .eq 12, 3)) mq_29 ci_29 (List.mem_of_getElem? (i := 2) rfl)
theorem cd_29_7 : mt_cd 29 7 = some (.aload_n 0) := mt_cd_of (q := (7, .aload_n 0, 1)) mq_29 ci_29 (List.mem_of_getElem? (i := 3) rfl)
theorem cd_29_8 : mt_cd 29 8 = some (.getfield 9) := mt_cd_of (q := (8, .getfield 9, 3)) mq_29 ci_29 (List.mem_of_getElem? (i := 4) rfl)
theorem cd_29_11 : mt_cd 29 11 = some (.iload_n 1) := mt_cd_of (q := (11, .iload_n 1, 1)) mq_29 ci_29 (List.mem_of_getElem? (i := 5) rfl)
theorem cd_29_12 : mt_cd 29 12 = some (.invokestatic 495) := mt_cd_of (q := (12, .invokestatic 495, 3)) mq_29 ci_29 (List.mem_of_getElem? (i := 6) rfl)
theorem cd_29_15 : mt_cd 29 15 = some (.ireturn) := mt_cd_of (q := (15, .ireturn, 1)) mq_29 ci_29 (List.mem_of_getElem? (i := 7) rfl)
theorem cd_29_16 : mt_cd 29 16 = some (.aload_n 0) := mt_cd_of (q := (16, .aload_n 0, 1)) mq_29 ci_29 (List.mem_of_getElem? (i := 8) rfl)
theorem cd_29_17 : mt_cd 29 17 = some (.getfield 9) := mt_cd_of (q := (17, .getfield 9, 3)) mq_29 ci_29 (List.mem_of_getElem? (i := 9) rfl)
theorem cd_29_20 : mt_cd 29 20 = some (.iload_n 1) := mt_cd_of (q := (20, .iload_n 1, 1)) mq_29 ci_29 (List.mem_of_getElem? (i := 10) rfl)
theorem cd_29_21 : mt_cd 29 21 = some (.invokestatic 498) := mt_cd_of (q := (21, .invokestatic 498, 3)) mq_29 ci_29 (List.mem_of_getElem? (i := 11) rfl)
theorem cd_29_24 : mt_cd 29 24 = some (.ireturn) := mt_cd_of (q := (24, .ireturn, 1)) mq_29 ci_29 (List.mem_of_getElem? (i := 12) rfl)
/-! java/lang/String.isLatin1()Z -/
set_option maxRecDepth 100000 in
theorem mq_30 : mt_q 30 = my_30 := rfl
set_option maxRecDepth 100000 in
theorem ci_30 : mt_inc 0 my_30.cd = true := by decide +kernel
theorem cd_30_0 : mt_cd 30 0 = some (.getstatic 38) := mt_cd_of (q := (0, .getstatic 38, 3)) mq_30 ci_30 (List.mem_of_getElem? (i := 0) rfl)
theorem cd_30_3 : mt_cd 30 3 = some (.ifCond .eq 14) := mt_cd_of (q := (3, .ifCond .eq 14, 3)) mq_30 ci_30 (List.mem_of_getElem? (i := 1) rfl)
theorem cd_30_6 : mt_cd 30 6 = some (.aload_n 0) := mt_cd_of (q := (6, .aload_n 0, 1)) mq_30 ci_30 (List.mem_of_getElem? (i := 2) rfl)
theorem cd_30_7 : mt_cd 30 7 = some (.getfield 15) := mt_cd_of (q := (7, .getfield 15, 3)) mq_30 ci_30 (List.mem_of_getElem? (i := 3) rfl)
theorem cd_30_10 : mt_cd 30 10 = some (.ifCond .ne 7) := mt_cd_of (q := (10, .ifCond .ne 7, 3)) mq_30 ci_30 (List.mem_of_getElem? (i := 4) rfl)
theorem cd_30_13 : mt_cd 30 13 = some (.iconst 1) := mt_cd_of (q := (13, .iconst 1, 1)) mq_30 ci_30 (List.mem_of_getElem? (i := 5) rfl)
theorem cd_30_14 : mt_cd 30 14 = some (.goto 4) := mt_cd_of (q := (14, .goto 4, 3)) mq_30 ci_30 (List.mem_of_getElem? (i := 6) rfl)
theorem cd_30_17 : mt_cd 30 17 = some (.iconst 0) := mt_cd_of (q := (17, .iconst 0, 1)) mq_30 ci_30 (List.mem_of_getElem? (i := 7) rfl)
theorem cd_30_18 : mt_cd 30 18 = some (.ireturn) := mt_cd_of (q := (18, .ireturn, 1)) mq_30 ci_30 (List.mem_of_getElem? (i := 8) rfl)
/-! java/lang/StringLatin1.charAt([BI)C -/
set_option maxRecDepth 100000 in
theorem mq_31 : mt_q 31 = my_31 := rfl
set_option maxRecDepth 100000 in
theorem ci_31 : mt_inc 0 my_31.cd = true := by decide +kernel
theorem cd_31_0 : mt_cd 31 0 = some (.iload_n 1) := mt_cd_of (q := (0, .iload_n 1, 1)) mq_31 ci_31 (List.mem_of_getElem? (i := 0) rfl)
theorem cd_31_1 : mt_cd 31 1 = some (.aload_n 0) := mt_cd_of (q := (1, .aload_n 0, 1)) mq_31 ci_31 (List.mem_of_getElem? (i := 1) rfl)
theorem cd_31_2 : mt_cd 31 2 = some (.arraylength) := mt_cd_of (q := (2, .arraylength, 1)) mq_31 ci_31 (List.mem_of_getElem? (i := 2) rfl)
theorem cd_31_3 : mt_cd 31 3 = some (.invokestatic 9) := mt_cd_of (q := (3, .invokestatic 9, 3)) mq_31 ci_31 (List.mem_of_getElem? (i := 3) rfl)
theorem cd_31_6 : mt_cd 31 6 = some (.aload_n 0) := mt_cd_of (q := (6, .aload_n 0, 1)) mq_31 ci_31 (List.mem_of_getElem? (i := 4) rfl)
theorem cd_31_7 : mt_cd 31 7 = some (.iload_n 1) := mt_cd_of (q := (7, .iload_n 1, 1)) mq_31 ci_31 (List.mem_of_getElem? (i := 5) rfl)
theorem cd_31_8 : mt_cd 31 8 = some (.baload) := mt_cd_of (q := (8, .baload, 1)) mq_31 ci_31 (List.mem_of_getElem? (i := 6) rfl)
theorem cd_31_9 : mt_cd 31 9 = some (.sipush 255) := mt_cd_of (q := (9, .sipush 255, 3)) mq_31 ci_31 (List.mem_of_getElem? (i := 7) rfl)
theorem cd_31_12 : mt_cd 31 12 = some (.iand) := mt_cd_of (q := (12, .iand, 1)) mq_31 ci_31 (List.mem_of_getElem? (i := 8) rfl)
theorem cd_31_13 : mt_cd 31 13 = some (.i2c) := mt_cd_of (q := (13, .i2c, 1)) mq_31 ci_31 (List.mem_of_getElem? (i := 9) rfl)
theorem cd_31_14 : mt_cd 31 14 = some (.ireturn) := mt_cd_of (q := (14, .ireturn, 1)) mq_31 ci_31 (List.mem_of_getElem? (i := 10) rfl)
/-! java/lang/String.checkIndex(II)V -/
set_option maxRecDepth 100000 in
theorem mq_32 : mt_q 32 = my_32 := rfl
set_option maxRecDepth 100000 in
theorem ci_32 : mt_inc 0 my_32.cd = true := by decide +kernel
theorem cd_32_0 : mt_cd 32 0 = some (.iload_n 0) := mt_cd_of (q := (0, .iload_n 0, 1)) mq_32 ci_32 (List.mem_of_getElem? (i := 0) rfl)
theorem cd_32_1 : mt_cd 32 1 = some (.iload_n 1) := mt_cd_of (q := (1, .iload_n 1, 1)) mq_32 ci_32 (List.mem_of_getElem? (i := 1) rfl)
theorem cd_32_2 : mt_cd 32 2 = some (.getstatic 1053) := mt_cd_of (q := (2, .getstatic 1053, 3)) mq_32 ci_32 (List.mem_of_getElem? (i := 2) rfl)
theorem cd_32_5 : mt_cd 32 5 = some (.invokestatic 1059) := mt_cd_of (q := (5, .invokestatic 1059, 3)) mq_32 ci_32 (List.mem_of_getElem? (i := 3) rfl)
theorem cd_32_8 : mt_cd 32 8 = some (.pop) := mt_cd_of (q := (8, .pop, 1)) mq_32 ci_32 (List.mem_of_getElem? (i := 4) rfl)
theorem cd_32_9 : mt_cd 32 9 = some (.return_) := mt_cd_of (q := (9, .return_, 1)) mq_32 ci_32 (List.mem_of_getElem? (i := 5) rfl)
/-! jdk/internal/util/Preconditions.checkIndex(IILjava/util/function/BiFunction;)I -/
set_option maxRecDepth 100000 in
theorem mq_33 : mt_q 33 = my_33 := rfl
set_option maxRecDepth 100000 in
theorem ci_33 : mt_inc 0 my_33.cd = true := by decide +kernel
theorem cd_33_0 : mt_cd 33 0 = some (.iload_n 0) := mt_cd_of (q := (0, .iload_n 0, 1)) mq_33 ci_33 (List.mem_of_getElem? (i := 0) rfl)
theorem cd_33_1 : mt_cd 33 1 = some (.ifCond .lt 8) := mt_cd_of (q := (1, .ifCond .lt 8, 3)) mq_33 ci_33 (List.mem_of_getElem? (i := 1) rfl)
theorem cd_33_4 : mt_cd 33 4 = some (.iload_n 0) := mt_cd_of (q := (4, .iload_n 0, 1)) mq_33 ci_33 (List.mem_of_getElem? (i := 2) rfl)
theorem cd_33_5 : mt_cd 33 5 = some (.iload_n 1) := mt_cd_of (q := (5, .iload_n 1, 1)) mq_33 ci_33 (List.mem_of_getElem? (i := 3) rfl)
theorem cd_33_6 : mt_cd 33 6 = some (.if_icmp .lt 10) := mt_cd_of (q := (6, .if_icmp .lt 10, 3)) mq_33 ci_33 (List.mem_of_getElem? (i := 4) rfl)
theorem cd_33_9 : mt_cd 33 9 = some (.aload_n 2) := mt_cd_of (q := (9, .aload_n 2, 1)) mq_33 ci_33 (List.mem_of_getElem? (i := 5) rfl)
theorem cd_33_10 : mt_cd 33 10 = some (.iload_n 0) := mt_cd_of (q := (10, .iload_n 0, 1)) mq_33 ci_33 (List.mem_of_getElem? (i := 6) rfl)
theorem cd_33_11 : mt_cd 33 11 = some (.iload_n 1) := mt_cd_of (q := (11, .iload_n 1, 1)) mq_33 ci_33 (List.mem_of_getElem? (i := 7) rfl)
theorem cd_33_12 : mt_cd 33 12 = some (.invokestatic 95) := mt_cd_of (q := (12, .invokestatic 95, 3)) mq_33 ci_33 (List.mem_of_getElem? (i := 8) rfl)
theorem cd_33_15 : mt_cd 33 15 = some (.athrow) := mt_cd_of (q := (15, .athrow, 1)) mq_33 ci_33 (List.mem_of_getElem? (i := 9) rfl)
theorem cd_33_16 : mt_cd 33 16 = some (.iload_n 0) := mt_cd_of (q := (16, .iload_n 0, 1)) mq_33 ci_33 (List.mem_of_getElem? (i := 10) rfl)
theorem cd_33_17 : mt_cd 33 17 = some (.ireturn) := mt_cd_of (q := (17, .ireturn, 1)) mq_33 ci_33 (List.mem_of_getElem? (i := 11) rfl)
/-! rules of constants -/
section
variable {d y pc q : Nat} {idx : _} {ls : mi_L} {st : List Value} {h : mi_H} {Q : (Option Value ⊕ Nat) → mi_H → Prop}
def mi_cq (q : Nat) : Prop := mi_SC < q ∧ (q - mi_SC - 1) % 2 = 0 ∧ (q - mi_SC - 1) / 2 < mt_ns
def mi_cr (q : Nat) : Prop := mi_SC < q ∧ (q - mi_SC - 1) % 2 = 1 ∧ (q - mi_SC - 1) / 2 < mt_ns
theorem mi_cr.of (hq : mi_cq q) : mi_cr (q + 1) ∧ (q + 1 - mi_SC - 1) / 2 = (q - mi_SC - 1) / 2 := by
  obtain ⟨h1, h2, h3⟩ := hq
  have e : (q + 1 - mi_SC - 1) / 2 = (q - mi_SC - 1) / 2 := by omega
  refine ⟨⟨by omega, by omega, ?_⟩, e⟩
  rw [e]
  exact h3
theorem w_getfieldV (hc : mt_cd y pc = some (.getfield 9)) (ho : mt_oc y = 17) (hq : mi_cq q) (hn : h.1 ≤ mi_SC) (kk : mi_W d y (pc + 3) ls (.ref (q + 1) :: st) h Q) : mi_W d y pc ls (.ref q :: st) h Q := by
  have hD : mi_sD y (.getfield 9) pc ls (.ref q :: st) h = none := by
    have h1 := hq.1
    unfold mi_sD
    dsimp only
    have hnq : ¬ q < h.1 := by omega
    simp only [hnq, false_and, if_false]
    split <;> rfl
  refine mi_W.s hc ?_ kk
  simp only [mi_s, mi_sA, hD, mi_sB, mi_sC, mi_sE]
  rw [if_pos ⟨ho, hq⟩]
  exact if_pos rfl
theorem w_getfieldK (hc : mt_cd y pc = some (.getfield 15)) (ho : mt_oc y = 17) (hq : mi_cq q) (hn : h.1 ≤ mi_SC) (kk : mi_W d y (pc + 3) ls (.int 0 :: st) h Q) : mi_W d y pc ls (.ref q :: st) h Q := by
  have hD : mi_sD y (.getfield 15) pc ls (.ref q :: st) h = none := by
    have h1 := hq.1
    unfold mi_sD
    dsimp only
    have hnq : ¬ q < h.1 := by omega
    simp only [hnq, false_and, if_false]
    split <;> rfl
  refine mi_W.s hc ?_ kk
  simp only [mi_s, mi_sA, hD, mi_sB, mi_sC, mi_sE]
  rw [if_pos ⟨ho, hq⟩, if_neg (by decide)]
  exact if_pos rfl
theorem w_arraylengthT (hc : mt_cd y pc = some .arraylength) (hq : mi_cr q) (hn : h.1 ≤ mi_SC) (kk : mi_W d y (pc + 1) ls (.int (Int32.ofNat (mt_sl.getD ((q - mi_SC - 1) / 2) 0)) :: st) h Q) : mi_W d y pc ls (.ref q :: st) h Q := by
  have hD : mi_sD y .arraylength pc ls (.ref q :: st) h = none := by
    have h1 := hq.1
    unfold mi_sD
    dsimp only
    have hnq : ¬ q < h.1 := by omega
    have hne : ¬ q = mi_SC := by omega
    simp only [hnq, hne, false_and, if_false]
    split <;> rfl
  refine mi_W.s hc ?_ kk
  simp only [mi_s, mi_sA, hD, mi_sB, mi_sC, mi_sE]
  exact if_pos hq
theorem w_baloadT {j : Int32} (hc : mt_cd y pc = some .baload) (hq : mi_cr q) (hj : ¬ (j < 0 ∨ mt_sl.getD ((q - mi_SC - 1) / 2) 0 ≤ j.toNatClampNeg)) (hn : h.1 ≤ mi_SC) (kk : mi_W d y (pc + 1) ls (.int ((mt_sb.getD ((q - mi_SC - 1) / 2) []).getD j.toNatClampNeg 0) :: st) h Q) : mi_W d y pc ls (.int j :: .ref q :: st) h Q := by
  have hD : mi_sD y .baload pc ls (.int j :: .ref q :: st) h = none := by
    have h1 := hq.1
    unfold mi_sD
    dsimp only
    have hnq : ¬ q < h.1 := by omega
    have hne : ¬ q = mi_SC := by omega
    simp only [hnq, hne, false_and, if_false]
    split <;> rfl
  refine mi_W.s hc ?_ kk
  simp only [mi_s, mi_sA, hD, mi_sB, mi_sC, mi_sE]
  exact if_pos ⟨hq, hj⟩
theorem w_getstaticC (hc : mt_cd y pc = some (.getstatic 38)) (ho : mt_oc y = 17) (kk : mi_W d y (pc + 3) ls (.int 1 :: st) h Q) : mi_W d y pc ls st h Q := by
  refine mi_W.s hc ?_ kk
  simp only [mi_s, mi_sA, mi_sD, mi_sB, mi_sC, mi_sE]
  exact if_pos ⟨ho, rfl⟩
theorem w_getstaticF (hc : mt_cd y pc = some (.getstatic 1053)) (ho : mt_oc y = 17) (kk : mi_W d y (pc + 3) ls (.retAddr 0 :: st) h Q) : mi_W d y pc ls st h Q := by
  refine mi_W.s hc ?_ kk
  simp only [mi_s, mi_sA, mi_sD, mi_sB, mi_sC, mi_sE]
  rw [if_neg (fun z => absurd z.2 (by decide))]
  exact if_pos ⟨ho, rfl⟩
end
end
