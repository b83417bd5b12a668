def mt_ys0 : List mt_Y := [my_0, my_1, my_2, my_3, my_4, my_5, my_6, my_7, my_8, my_9, my_10, my_11, my_12, my_13, my_14, my_15, my_16, my_17, my_18, my_19, my_20, my_21, my_22, my_23, my_24, my_25, my_26, my_27, my_28, my_29, my_30, my_31, my_32, my_33, my_34, my_35, my_36, my_37, my_38, my_39]
theorem mt_ysok0 : ∀ q ∈ mt_ys0, mt_ok q := List.forall_mem_cons.mpr ⟨mk_0, List.forall_mem_cons.mpr ⟨mk_1, List.forall_mem_cons.mpr ⟨mk_2, List.forall_mem_cons.mpr ⟨mk_3, List.forall_mem_cons.mpr ⟨mk_4, List.forall_mem_cons.mpr ⟨mk_5, List.forall_mem_cons.mpr ⟨mk_6, List.forall_mem_cons.mpr ⟨mk_7, List.forall_mem_cons.mpr ⟨mk_8, List.forall_mem_cons.mpr ⟨mk_9, List.forall_mem_cons.mpr ⟨mk_10, List.forall_mem_cons.mpr ⟨mk_11, List.forall_mem_cons.mpr ⟨mk_12, List.forall_mem_cons.mpr ⟨mk_13, List.forall_mem_cons.mpr ⟨mk_14, List.forall_mem_cons.mpr ⟨mk_15, List.forall_mem_cons.mpr ⟨mk_16, List.forall_mem_cons.mpr ⟨mk_17, List.forall_mem_cons.mpr ⟨mk_18, List.forall_mem_cons.mpr ⟨mk_19, List.forall_mem_cons.mpr ⟨mk_20, List.forall_mem_cons.mpr ⟨mk_21, List.forall_mem_cons.mpr ⟨mk_22, List.forall_mem_cons.mpr ⟨mk_23, List.forall_mem_cons.mpr ⟨mk_24, List.forall_mem_cons.mpr ⟨mk_25, List.forall_mem_cons.mpr ⟨mk_26, List.forall_mem_cons.mpr ⟨mk_27, List.forall_mem_cons.mpr ⟨mk_28, List.forall_mem_cons.mpr ⟨mk_29, List.forall_mem_cons.mpr ⟨mk_30, List.forall_mem_cons.mpr ⟨mk_31, List.forall_mem_cons.mpr ⟨mk_32, List.forall_mem_cons.mpr ⟨mk_33, List.forall_mem_cons.mpr ⟨mk_34, List.forall_mem_cons.mpr ⟨mk_35, List.forall_mem_cons.mpr ⟨mk_36, List.forall_mem_cons.mpr ⟨mk_37, List.forall_mem_cons.mpr ⟨mk_38, List.forall_mem_cons.mpr ⟨mk_39, fun _ h => absurd h List.not_mem_nil⟩⟩⟩⟩⟩⟩⟩⟩⟩⟩⟩⟩⟩⟩⟩⟩⟩⟩⟩⟩⟩⟩⟩⟩⟩⟩⟩⟩⟩⟩⟩⟩⟩⟩⟩⟩⟩⟩⟩⟩
def mt_ys1 : List mt_Y := [my_40, my_41, my_42, my_43, my_44, my_45, my_46, my_47, my_48, my_49, my_50, my_51, my_52, my_53, my_54, my_55, my_56, my_57, my_58, my_59, my_60, my_61, my_62, my_63, my_64, my_65, my_66, my_67, my_68, my_69, my_70, my_71, my_72, my_73, my_74, my_75, my_76, my_77, my_78, my_79]
theorem mt_ysok1 : ∀ q ∈ mt_ys1, mt_ok q := List.forall_mem_cons.mpr ⟨mk_40, List.forall_mem_cons.mpr ⟨mk_41, List.forall_mem_cons.mpr ⟨mk_42, List.forall_mem_cons.mpr ⟨mk_43, List.forall_mem_cons.mpr ⟨mk_44, List.forall_mem_cons.mpr ⟨mk_45, List.forall_mem_cons.mpr ⟨mk_46, List.forall_mem_cons.mpr ⟨mk_47, List.forall_mem_cons.mpr ⟨mk_48, List.forall_mem_cons.mpr ⟨mk_49, List.forall_mem_cons.mpr ⟨mk_50, List.forall_mem_cons.mpr ⟨mk_51, List.forall_mem_cons.mpr ⟨mk_52, List.forall_mem_cons.mpr ⟨mk_53, List.forall_mem_cons.mpr ⟨mk_54, List.forall_mem_cons.mpr ⟨mk_55, List.forall_mem_cons.mpr ⟨mk_56, List.forall_mem_cons.mpr ⟨mk_57, List.forall_mem_cons.mpr ⟨mk_58, List.forall_mem_cons.mpr ⟨mk_59, List.forall_mem_cons.mpr ⟨mk_60, List.forall_mem_cons.mpr ⟨mk_61, List.forall_mem_cons.mpr ⟨mk_62, List.forall_mem_cons.mpr ⟨mk_63, List.forall_mem_cons.mpr ⟨mk_64, List.forall_mem_cons.mpr ⟨mk_65, List.forall_mem_cons.mpr ⟨mk_66, List.forall_mem_cons.mpr ⟨mk_67, List.forall_mem_cons.mpr ⟨mk_68, List.forall_mem_cons.mpr ⟨mk_69, List.forall_mem_cons.mpr ⟨mk_70, List.forall_mem_cons.mpr ⟨mk_71, List.forall_mem_cons.mpr ⟨mk_72, List.forall_mem_cons.mpr ⟨mk_73, List.forall_mem_cons.mpr ⟨mk_74, List.forall_mem_cons.mpr ⟨mk_75, List.forall_mem_cons.mpr ⟨mk_76, List.forall_mem_cons.mpr ⟨mk_77, List.forall_mem_cons.mpr ⟨mk_78, List.forall_mem_cons.mpr ⟨mk_79, fun _ h => absurd h List.not_mem_nil⟩⟩⟩⟩⟩⟩⟩⟩⟩⟩⟩⟩⟩⟩⟩⟩⟩⟩⟩⟩⟩⟩⟩⟩⟩⟩⟩⟩⟩⟩⟩⟩⟩⟩⟩⟩⟩⟩⟩⟩
def mt_ys2 : List mt_Y := [my_80, my_81, my_82, my_83, my_84, my_85, my_86, my_87, my_88, my_89, my_90, my_91, my_92, my_93, my_94, my_95, my_96, my_97, my_98, my_99, my_100, my_101, my_102, my_103, my_104, my_105, my_106, my_107, my_108, my_109, my_110, my_111, my_112, my_113, my_114, my_115, my_116, my_117, my_118, my_119]
theorem mt_ysok2 : ∀ q ∈ mt_ys2, mt_ok q := List.forall_mem_cons.mpr ⟨mk_80, List.forall_mem_cons.mpr ⟨mk_81, List.forall_mem_cons.mpr ⟨mk_82, List.forall_mem_cons.mpr ⟨mk_83, List.forall_mem_cons.mpr ⟨mk_84, List.forall_mem_cons.mpr ⟨mk_85, List.forall_mem_cons.mpr ⟨mk_86, List.forall_mem_cons.mpr ⟨mk_87, List.forall_mem_cons.mpr ⟨mk_88, List.forall_mem_cons.mpr ⟨mk_89, List.forall_mem_cons.mpr ⟨mk_90, List.forall_mem_cons.mpr ⟨mk_91, List.forall_mem_cons.mpr ⟨mk_92, List.forall_mem_cons.mpr ⟨mk_93, List.forall_mem_cons.mpr ⟨mk_94, List.forall_mem_cons.mpr ⟨mk_95, List.forall_mem_cons.mpr ⟨mk_96, List.forall_mem_cons.mpr ⟨mk_97, List.forall_mem_cons.mpr ⟨mk_98, List.forall_mem_cons.mpr ⟨mk_99, List.forall_mem_cons.mpr ⟨mk_100, List.forall_mem_cons.mpr ⟨mk_101, List.forall_mem_cons.mpr ⟨mk_102, List.forall_mem_cons.mpr ⟨mk_103, List.forall_mem_cons.mpr ⟨mk_104, List.forall_mem_cons.mpr ⟨mk_105, List.forall_mem_cons.mpr ⟨mk_106, List.forall_mem_cons.mpr ⟨mk_107, List.forall_mem_cons.mpr ⟨mk_108, List.forall_mem_cons.mpr ⟨mk_109, List.forall_mem_cons.mpr ⟨mk_110, List.forall_mem_cons.mpr ⟨mk_111, List.forall_mem_cons.mpr ⟨mk_112, List.forall_mem_cons.mpr ⟨mk_113, List.forall_mem_cons.mpr ⟨mk_114, List.forall_mem_cons.mpr ⟨mk_115, List.forall_mem_cons.mpr ⟨mk_116, List.forall_mem_cons.mpr ⟨mk_117, List.forall_mem_cons.mpr ⟨mk_118, List.forall_mem_cons.mpr ⟨mk_119, fun _ h => absurd h List.not_mem_nil⟩⟩⟩⟩⟩⟩⟩⟩⟩⟩⟩⟩⟩⟩⟩⟩⟩⟩⟩⟩⟩⟩⟩⟩⟩⟩⟩⟩⟩⟩⟩⟩⟩⟩⟩⟩⟩⟩⟩⟩
def mt_ys3 : List mt_Y := [my_120, my_121, my_122, my_123, my_124, my_125, my_126, my_127, my_128, my_129, my_130, my_131, my_132, my_133, my_134, my_135, my_136, my_137, my_138, my_139, my_140, my_141, my_142, my_143, my_144, my_145, my_146, my_147, my_148, my_149, my_150, my_151, my_152, my_153, my_154, my_155, my_156, my_157, my_158, my_159]
theorem mt_ysok3 : ∀ q ∈ mt_ys3, mt_ok q := List.forall_mem_cons.mpr ⟨mk_120, List.forall_mem_cons.mpr ⟨mk_121, List.forall_mem_cons.mpr ⟨mk_122, List.forall_mem_cons.mpr ⟨mk_123, List.forall_mem_cons.mpr ⟨mk_124, List.forall_mem_cons.mpr ⟨mk_125, List.forall_mem_cons.mpr ⟨mk_126, List.forall_mem_cons.mpr ⟨mk_127, List.forall_mem_cons.mpr ⟨mk_128, List.forall_mem_cons.mpr ⟨mk_129, List.forall_mem_cons.mpr ⟨mk_130, List.forall_mem_cons.mpr ⟨mk_131, List.forall_mem_cons.mpr ⟨mk_132, List.forall_mem_cons.mpr ⟨mk_133, List.forall_mem_cons.mpr ⟨mk_134, List.forall_mem_cons.mpr ⟨mk_135, List.forall_mem_cons.mpr ⟨mk_136, List.forall_mem_cons.mpr ⟨mk_137, List.forall_mem_cons.mpr ⟨mk_138, List.forall_mem_cons.mpr ⟨mk_139, List.forall_mem_cons.mpr ⟨mk_140, List.forall_mem_cons.mpr ⟨mk_141, List.forall_mem_cons.mpr ⟨mk_142, List.forall_mem_cons.mpr ⟨mk_143, List.forall_mem_cons.mpr ⟨mk_144, List.forall_mem_cons.mpr ⟨mk_145, List.forall_mem_cons.mpr ⟨mk_146, List.forall_mem_cons.mpr ⟨mk_147, List.forall_mem_cons.mpr ⟨mk_148, List.forall_mem_cons.mpr ⟨mk_149, List.forall_mem_cons.mpr ⟨mk_150, List.forall_mem_cons.mpr ⟨mk_151, List.forall_mem_cons.mpr ⟨mk_152, List.forall_mem_cons.mpr ⟨mk_153, List.forall_mem_cons.mpr ⟨mk_154, List.forall_mem_cons.mpr ⟨mk_155, List.forall_mem_cons.mpr ⟨mk_156, List.forall_mem_cons.mpr ⟨mk_157, List.forall_mem_cons.mpr ⟨mk_158, List.forall_mem_cons.mpr ⟨mk_159, fun _ h => absurd h List.not_mem_nil⟩⟩⟩⟩⟩⟩⟩⟩⟩⟩⟩⟩⟩⟩⟩⟩⟩⟩⟩⟩⟩⟩⟩⟩⟩⟩⟩⟩⟩⟩⟩⟩⟩⟩⟩⟩⟩⟩⟩⟩
def mt_ys4 : List mt_Y := [my_160, my_161, my_162, my_163, my_164, my_165, my_166, my_167, my_168, my_169, my_170, my_171, my_172, my_173, my_174, my_175, my_176, my_177, my_178, my_179, my_180, my_181, my_182, my_183, my_184, my_185, my_186, my_187, my_188, my_189, my_190, my_191, my_192, my_193, my_194, my_195, my_196, my_197, my_198, my_199]
theorem mt_ysok4 : ∀ q ∈ mt_ys4, mt_ok q := List.forall_mem_cons.mpr ⟨mk_160, List.forall_mem_cons.mpr ⟨mk_161, List.forall_mem_cons.mpr ⟨mk_162, List.forall_mem_cons.mpr ⟨mk_163, List.forall_mem_cons.mpr ⟨mk_164, List.forall_mem_cons.mpr ⟨mk_165, List.forall_mem_cons.mpr ⟨mk_166, List.forall_mem_cons.mpr ⟨mk_167, List.forall_mem_cons.mpr ⟨mk_168, List.forall_mem_cons.mpr ⟨mk_169, List.forall_mem_cons.mpr ⟨mk_170, List.forall_mem_cons.mpr ⟨mk_171, List.forall_mem_cons.mpr ⟨mk_172, List.forall_mem_cons.mpr ⟨mk_173, List.forall_mem_cons.mpr ⟨mk_174, List.forall_mem_cons.mpr ⟨mk_175, List.forall_mem_cons.mpr ⟨mk_176, List.forall_mem_cons.mpr ⟨mk_177, List.forall_mem_cons.mpr ⟨mk_178, List.forall_mem_cons.mpr ⟨mk_179, List.forall_mem_cons.mpr ⟨mk_180, List.forall_mem_cons.mpr ⟨mk_181, List.forall_mem_cons.mpr ⟨mk_182, List.forall_mem_cons.mpr ⟨mk_183, List.forall_mem_cons.mpr ⟨mk_184, List.forall_mem_cons.mpr ⟨mk_185, List.forall_mem_cons.mpr ⟨mk_186, List.forall_mem_cons.mpr ⟨mk_187, List.forall_mem_cons.mpr ⟨mk_188, List.forall_mem_cons.mpr ⟨mk_189, List.forall_mem_cons.mpr ⟨mk_190, List.forall_mem_cons.mpr ⟨mk_191, List.forall_mem_cons.mpr ⟨mk_192, List.forall_mem_cons.mpr ⟨mk_193, List.forall_mem_cons.mpr ⟨mk_194, List.forall_mem_cons.mpr ⟨mk_195, List.forall_mem_cons.mpr ⟨mk_196, List.forall_mem_cons.mpr ⟨mk_197, List.forall_mem_cons.mpr ⟨mk_198, List.forall_mem_cons.mpr ⟨mk_199, fun _ h => absurd h List.not_mem_nil⟩⟩⟩⟩⟩⟩⟩⟩⟩⟩⟩⟩⟩⟩⟩⟩⟩⟩⟩⟩⟩⟩⟩⟩⟩⟩⟩⟩⟩⟩⟩⟩⟩⟩⟩⟩⟩⟩⟩⟩
def mt_ys5 : List mt_Y := [my_200, my_201, my_202, my_203]
theorem mt_ysok5 : ∀ q ∈ mt_ys5, mt_ok q := List.forall_mem_cons.mpr ⟨mk_200, List.forall_mem_cons.mpr ⟨mk_201, List.forall_mem_cons.mpr ⟨mk_202, List.forall_mem_cons.mpr ⟨mk_203, fun _ h => absurd h List.not_mem_nil⟩⟩⟩⟩
def mt_ys : List mt_Y := mt_ys0 ++ (mt_ys1 ++ (mt_ys2 ++ (mt_ys3 ++ (mt_ys4 ++ (mt_ys5)))))
theorem mt_ys_ok : ∀ q ∈ mt_ys, mt_ok q := by
  show ∀ q ∈ mt_ys0 ++ (mt_ys1 ++ (mt_ys2 ++ (mt_ys3 ++ (mt_ys4 ++ (mt_ys5))))), mt_ok q
  exact List.forall_mem_append.mpr ⟨mt_ysok0, List.forall_mem_append.mpr ⟨mt_ysok1, List.forall_mem_append.mpr ⟨mt_ysok2, List.forall_mem_append.mpr ⟨mt_ysok3, List.forall_mem_append.mpr ⟨mt_ysok4, mt_ysok5⟩⟩⟩⟩⟩
def mt_ny : Nat := 204
theorem mt_ys_len : mt_ys.length = mt_ny := by decide +kernel
def mt_q (y : Nat) : mt_Y := mt_ys.getD y my_204
def mt_nm (y : Nat) : MethodName := (mt_q y).nm
def mt_by (y : Nat) : ByteArray := (mt_q y).by
def mt_ml (y : Nat) : Nat := (mt_q y).ml
def mt_rt (y : Nat) : Option FieldType := (mt_q y).rt
def mt_oc (y : Nat) : Nat := (mt_q y).oc
def mt_np (y : Nat) : Nat := (mt_q y).np
def mt_ini (y : Nat) : Bool := (mt_q y).ini
def mt_hd (y : Nat) : List (Nat × Nat × Nat × Nat) := (mt_q y).hd
def mt_cd (y pc : Nat) : Option Instr := ((mt_q y).cd.find? (fun q => q.1 == pc)).map (fun q => q.2.1)
def mt_in (y ci : Nat) : Bool := mt_ini y && (mt_oc y == ci)
theorem mt_q_mem {y : Nat} (h : y < mt_ny) : mt_q y ∈ mt_ys := by
  unfold mt_q
  rw [← mt_ys_len] at h
  rw [List.getD_eq_getElem?_getD, List.getElem?_eq_getElem h]
  exact List.getElem_mem h
theorem mt_q_ok0 (y : Nat) : mt_ok0 (mt_q y) := by
  rcases Nat.lt_or_ge y mt_ny with h | h
  · exact (mt_ys_ok _ (mt_q_mem h)).2.2.2.2.2
  · have e : mt_q y = my_204 := by
      unfold mt_q
      rw [← mt_ys_len] at h
      rw [List.getD_eq_getElem?_getD, List.getElem?_eq_none h]
      rfl
    rw [e]
    exact mk_204
theorem mt_cd_ok {y pc : Nat} {i : Instr} (h : mt_cd y pc = some i) : ∃ len, decode (mt_by y) pc = .ok (i, len) ∧ mi_len i len = true := by
  unfold mt_cd at h
  obtain ⟨q, hq, rfl⟩ := Option.map_eq_some_iff.mp h
  have h1 := List.all_eq_true.mp (mt_q_ok0 y).1 q (List.mem_of_find?_eq_some hq)
  have h2 : q.1 = pc := by have := List.find?_some hq; simpa using this
  simp only [Bool.and_eq_true, decide_eq_true_eq] at h1
  rw [h2] at h1
  exact ⟨q.2.2, h1.1, h1.2⟩
theorem mt_y_ok {y : Nat} (h : y < mt_ny) : ((mt_B (Cond.code (mt_nm y) (mt_by y) (mt_ml y) (mt_rt y)) ∧ mt_hd y = []) ∨ mt_B (Cond.codeWith (mt_nm y) (mt_by y) (mt_ml y) (mt_rt y) (mt_hd y))) ∧ plainFor (mt_nm y) = true ∧ (mt_nm y).cls = mt_cn (mt_oc y) ∧ (mt_ini y = true → (mt_nm y).name = "<init>") := by
  have h1 := mt_ys_ok _ (mt_q_mem h)
  exact ⟨h1.1, h1.2.1, h1.2.2.1, h1.2.2.2.1⟩
theorem mt_y_nm {y : Nat} (h : y < mt_ny) : y < mt_ny ∧ (mt_nm y).cls ≠ "java/lang/invoke/MethodHandle" ∧ (mt_nm y).cls ≠ "java/lang/invoke/VarHandle" ∧ ∀ sig, parseMethodDescriptor (mt_nm y).desc = some sig → mt_np y = sig.parameters.length := by
  have h1 := mt_ys_ok _ (mt_q_mem h)
  refine ⟨h, h1.2.2.2.2.1.1, h1.2.2.2.2.1.2.1, fun sig hs => ?_⟩
  have h2 := h1.2.2.2.2.1.2.2
  have hs' : parseMethodDescriptor (mt_q y).nm.desc = some sig := hs
  rw [hs'] at h2
  exact (Option.some.inj h2).symm
theorem mt_ml80 {y : Nat} (h : y < mt_ny) : mt_ml y ≤ 80 := (mt_q_ok0 y).2
