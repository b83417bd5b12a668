/-! the rules, an instruction each, by a program (wip/whole/prog/gen_rules.py) -/
def mi_ix (j : Int32) (n i : Nat) : Prop := ¬ j < 0 ∧ j.toNatClampNeg = i ∧ i < n
theorem mi_ix.ok {j : Int32} {n i : Nat} (h : mi_ix j n i) : ¬ (j < 0 ∨ n ≤ j.toNatClampNeg) := by
  obtain ⟨h1, h2, h3⟩ := h
  rw [h2]
  exact fun z => z.elim h1 (fun z => absurd h3 (Nat.not_lt.mpr z))
section
variable {d y y2 pc t idx n m q q2 ci kf : Nat} {ls ls' : mi_L} {st rest : List Value} {h : mi_H} {Q : (Option Value ⊕ Nat) → mi_H → Prop} {a b x v : Int32} {la lb lx lv : Int64} {off : Int} {fs : List Value} {w : Value}
theorem w_iconst {k} (hc : mt_cd y pc = some (.iconst k)) (hv : Int32.ofInt k = v) (kk : mi_W d y (pc + 1) ls (.int v :: st) h Q) : mi_W d y pc ls (st) h Q := mi_W.s hc (by subst hv; rfl) kk
theorem w_bipush {k} (hc : mt_cd y pc = some (.bipush k)) (hv : (Int8.ofInt k).toInt32 = v) (kk : mi_W d y (pc + 2) ls (.int v :: st) h Q) : mi_W d y pc ls (st) h Q := mi_W.s hc (by subst hv; rfl) kk
theorem w_sipush {k} (hc : mt_cd y pc = some (.sipush k)) (hv : (Int16.ofInt k).toInt32 = v) (kk : mi_W d y (pc + 3) ls (.int v :: st) h Q) : mi_W d y pc ls (st) h Q := mi_W.s hc (by subst hv; rfl) kk
theorem w_lconst {k} (hc : mt_cd y pc = some (.lconst k)) (hv : Int64.ofNat (k : Nat) = lv) (kk : mi_W d y (pc + 1) ls (.long lv :: st) h Q) : mi_W d y pc ls (st) h Q := mi_W.s hc (by subst hv; rfl) kk
theorem w_aconst_null (hc : mt_cd y pc = some (.aconst_null)) (kk : mi_W d y (pc + 1) ls (.null :: st) h Q) : mi_W d y pc ls (st) h Q := mi_W.s hc rfl kk
theorem w_iload_n {k} (hc : mt_cd y pc = some (.iload_n k)) (hg : mi_g ls (k : Nat) = some (.int x)) (kk : mi_W d y (pc + 1) ls (.int x :: st) h Q) : mi_W d y pc ls (st) h Q := mi_W.s hc (by simp only [mi_s, mi_sA, hg]) kk
theorem w_iload {k : Nat} (hc : mt_cd y pc = some (.iload k)) (hg : mi_g ls k = some (.int x)) (kk : mi_W d y (pc + 2) ls (.int x :: st) h Q) : mi_W d y pc ls (st) h Q := mi_W.s hc (by simp only [mi_s, mi_sA, hg]) kk
theorem w_lload_n {k} (hc : mt_cd y pc = some (.lload_n k)) (hg : mi_g ls (k : Nat) = some (.long lx)) (kk : mi_W d y (pc + 1) ls (.long lx :: st) h Q) : mi_W d y pc ls (st) h Q := mi_W.s hc (by simp only [mi_s, mi_sA, hg]) kk
theorem w_lload {k : Nat} (hc : mt_cd y pc = some (.lload k)) (hg : mi_g ls k = some (.long lx)) (kk : mi_W d y (pc + 2) ls (.long lx :: st) h Q) : mi_W d y pc ls (st) h Q := mi_W.s hc (by simp only [mi_s, mi_sA, hg]) kk
theorem w_aload_n {k} (hc : mt_cd y pc = some (.aload_n k)) (hg : mi_g ls (k : Nat) = some (.ref q)) (kk : mi_W d y (pc + 1) ls (.ref q :: st) h Q) : mi_W d y pc ls (st) h Q := mi_W.s hc (by simp only [mi_s, mi_sA, hg]) kk
theorem w_aload {k : Nat} (hc : mt_cd y pc = some (.aload k)) (hg : mi_g ls k = some (.ref q)) (kk : mi_W d y (pc + 2) ls (.ref q :: st) h Q) : mi_W d y pc ls (st) h Q := mi_W.s hc (by simp only [mi_s, mi_sA, hg]) kk
theorem w_istore_n {k} (hc : mt_cd y pc = some (.istore_n k)) (hk : (k : Nat) < ls.length) (hl : mi_s1 ls (k : Nat) (.int x) = ls') (kk : mi_W d y (pc + 1) ls' st h Q) : mi_W d y pc ls (.int x :: st) h Q := mi_W.s hc (by subst hl; simp only [mi_s, mi_sA, if_pos hk]) kk
theorem w_istore {k : Nat} (hc : mt_cd y pc = some (.istore k)) (hk : (k : Nat) < ls.length) (hl : mi_s1 ls (k : Nat) (.int x) = ls') (kk : mi_W d y (pc + 2) ls' st h Q) : mi_W d y pc ls (.int x :: st) h Q := mi_W.s hc (by subst hl; simp only [mi_s, mi_sA, if_pos hk]) kk
theorem w_lstore_n {k} (hc : mt_cd y pc = some (.lstore_n k)) (hk : (k : Nat) + 1 < ls.length) (hl : mi_s2 ls (k : Nat) (.long lx) = ls') (kk : mi_W d y (pc + 1) ls' st h Q) : mi_W d y pc ls (.long lx :: st) h Q := mi_W.s hc (by subst hl; simp only [mi_s, mi_sA, if_pos hk]) kk
theorem w_lstore {k : Nat} (hc : mt_cd y pc = some (.lstore k)) (hk : (k : Nat) + 1 < ls.length) (hl : mi_s2 ls (k : Nat) (.long lx) = ls') (kk : mi_W d y (pc + 2) ls' st h Q) : mi_W d y pc ls (.long lx :: st) h Q := mi_W.s hc (by subst hl; simp only [mi_s, mi_sA, if_pos hk]) kk
theorem w_astore_n {k} (hc : mt_cd y pc = some (.astore_n k)) (hk : (k : Nat) < ls.length) (hl : mi_s1 ls (k : Nat) (.ref q) = ls') (kk : mi_W d y (pc + 1) ls' st h Q) : mi_W d y pc ls (.ref q :: st) h Q := mi_W.s hc (by subst hl; simp only [mi_s, mi_sA, if_pos hk]) kk
theorem w_astore {k : Nat} (hc : mt_cd y pc = some (.astore k)) (hk : (k : Nat) < ls.length) (hl : mi_s1 ls (k : Nat) (.ref q) = ls') (kk : mi_W d y (pc + 2) ls' st h Q) : mi_W d y pc ls (.ref q :: st) h Q := mi_W.s hc (by subst hl; simp only [mi_s, mi_sA, if_pos hk]) kk
theorem w_iinc {i : Nat} {k} (hc : mt_cd y pc = some (.iinc i k)) (hg : mi_g ls i = some (.int x)) (hv : Int32.ofInt k = v) (hl : mi_s1 ls i (.int (x + v)) = ls') (kk : mi_W d y (pc + 3) ls' st h Q) : mi_W d y pc ls st h Q := mi_W.s hc (by subst hl; subst hv; simp only [mi_s, mi_sA, hg]) kk
theorem w_iadd (hc : mt_cd y pc = some (.iadd)) (kk : mi_W d y (pc + 1) ls (.int (a + b) :: st) h Q) : mi_W d y pc ls (.int b :: .int a :: st) h Q := mi_W.s hc rfl kk
theorem w_isub (hc : mt_cd y pc = some (.isub)) (kk : mi_W d y (pc + 1) ls (.int (a - b) :: st) h Q) : mi_W d y pc ls (.int b :: .int a :: st) h Q := mi_W.s hc rfl kk
theorem w_imul (hc : mt_cd y pc = some (.imul)) (kk : mi_W d y (pc + 1) ls (.int (a * b) :: st) h Q) : mi_W d y pc ls (.int b :: .int a :: st) h Q := mi_W.s hc rfl kk
theorem w_iand (hc : mt_cd y pc = some (.iand)) (kk : mi_W d y (pc + 1) ls (.int (a &&& b) :: st) h Q) : mi_W d y pc ls (.int b :: .int a :: st) h Q := mi_W.s hc rfl kk
theorem w_ior (hc : mt_cd y pc = some (.ior)) (kk : mi_W d y (pc + 1) ls (.int (a ||| b) :: st) h Q) : mi_W d y pc ls (.int b :: .int a :: st) h Q := mi_W.s hc rfl kk
theorem w_ixor (hc : mt_cd y pc = some (.ixor)) (kk : mi_W d y (pc + 1) ls (.int (a ^^^ b) :: st) h Q) : mi_W d y pc ls (.int b :: .int a :: st) h Q := mi_W.s hc rfl kk
theorem w_ishl (hc : mt_cd y pc = some (.ishl)) (kk : mi_W d y (pc + 1) ls (.int (a <<< (b &&& 31)) :: st) h Q) : mi_W d y pc ls (.int b :: .int a :: st) h Q := mi_W.s hc rfl kk
theorem w_ishr (hc : mt_cd y pc = some (.ishr)) (kk : mi_W d y (pc + 1) ls (.int (a >>> (b &&& 31)) :: st) h Q) : mi_W d y pc ls (.int b :: .int a :: st) h Q := mi_W.s hc rfl kk
theorem w_iushr (hc : mt_cd y pc = some (.iushr)) (kk : mi_W d y (pc + 1) ls (.int ((a.toUInt32 >>> (b.toUInt32 &&& Int32.toUInt32 31)).toInt32) :: st) h Q) : mi_W d y pc ls (.int b :: .int a :: st) h Q := mi_W.s hc rfl kk
theorem w_idiv (hc : mt_cd y pc = some (.idiv)) (hb : ¬ b = 0) (kk : mi_W d y (pc + 1) ls (.int (a / b) :: st) h Q) : mi_W d y pc ls (.int b :: .int a :: st) h Q := mi_W.s hc (by simp only [mi_s, mi_sA, mi_sD, mi_sB, if_pos hb]) kk
theorem w_irem (hc : mt_cd y pc = some (.irem)) (hb : ¬ b = 0) (kk : mi_W d y (pc + 1) ls (.int (a - a / b * b) :: st) h Q) : mi_W d y pc ls (.int b :: .int a :: st) h Q := mi_W.s hc (by simp only [mi_s, mi_sA, mi_sD, mi_sB, if_pos hb]) kk
theorem w_ladd (hc : mt_cd y pc = some (.ladd)) (kk : mi_W d y (pc + 1) ls (.long (la + lb) :: st) h Q) : mi_W d y pc ls (.long lb :: .long la :: st) h Q := mi_W.s hc rfl kk
theorem w_lsub (hc : mt_cd y pc = some (.lsub)) (kk : mi_W d y (pc + 1) ls (.long (la - lb) :: st) h Q) : mi_W d y pc ls (.long lb :: .long la :: st) h Q := mi_W.s hc rfl kk
theorem w_lmul (hc : mt_cd y pc = some (.lmul)) (kk : mi_W d y (pc + 1) ls (.long (la * lb) :: st) h Q) : mi_W d y pc ls (.long lb :: .long la :: st) h Q := mi_W.s hc rfl kk
theorem w_land (hc : mt_cd y pc = some (.land)) (kk : mi_W d y (pc + 1) ls (.long (la &&& lb) :: st) h Q) : mi_W d y pc ls (.long lb :: .long la :: st) h Q := mi_W.s hc rfl kk
theorem w_lor (hc : mt_cd y pc = some (.lor)) (kk : mi_W d y (pc + 1) ls (.long (la ||| lb) :: st) h Q) : mi_W d y pc ls (.long lb :: .long la :: st) h Q := mi_W.s hc rfl kk
theorem w_lxor (hc : mt_cd y pc = some (.lxor)) (kk : mi_W d y (pc + 1) ls (.long (la ^^^ lb) :: st) h Q) : mi_W d y pc ls (.long lb :: .long la :: st) h Q := mi_W.s hc rfl kk
theorem w_ldiv (hc : mt_cd y pc = some (.ldiv)) (hb : ¬ lb = 0) (kk : mi_W d y (pc + 1) ls (.long (la / lb) :: st) h Q) : mi_W d y pc ls (.long lb :: .long la :: st) h Q := mi_W.s hc (by simp only [mi_s, mi_sA, mi_sD, mi_sB, if_pos hb]) kk
theorem w_lrem (hc : mt_cd y pc = some (.lrem)) (hb : ¬ lb = 0) (kk : mi_W d y (pc + 1) ls (.long (la - la / lb * lb) :: st) h Q) : mi_W d y pc ls (.long lb :: .long la :: st) h Q := mi_W.s hc (by simp only [mi_s, mi_sA, mi_sD, mi_sB, if_pos hb]) kk
theorem w_lshl (hc : mt_cd y pc = some (.lshl)) (kk : mi_W d y (pc + 1) ls (.long (la <<< (b.toInt64 &&& 63)) :: st) h Q) : mi_W d y pc ls (.int b :: .long la :: st) h Q := mi_W.s hc rfl kk
theorem w_lshr (hc : mt_cd y pc = some (.lshr)) (kk : mi_W d y (pc + 1) ls (.long (la >>> (b.toInt64 &&& 63)) :: st) h Q) : mi_W d y pc ls (.int b :: .long la :: st) h Q := mi_W.s hc rfl kk
theorem w_lushr (hc : mt_cd y pc = some (.lushr)) (kk : mi_W d y (pc + 1) ls (.long ((la.toUInt64 >>> (b.toInt64.toUInt64 &&& Int64.toUInt64 63)).toInt64) :: st) h Q) : mi_W d y pc ls (.int b :: .long la :: st) h Q := mi_W.s hc rfl kk
theorem w_lcmp (hc : mt_cd y pc = some (.lcmp)) (kk : mi_W d y (pc + 1) ls (.int (lg_cmp la lb) :: st) h Q) : mi_W d y pc ls (.long lb :: .long la :: st) h Q := mi_W.s hc rfl kk
theorem w_ineg (hc : mt_cd y pc = some (.ineg)) (kk : mi_W d y (pc + 1) ls (.int (-a) :: st) h Q) : mi_W d y pc ls (.int a :: st) h Q := mi_W.s hc rfl kk
theorem w_lneg (hc : mt_cd y pc = some (.lneg)) (kk : mi_W d y (pc + 1) ls (.long (-la) :: st) h Q) : mi_W d y pc ls (.long la :: st) h Q := mi_W.s hc rfl kk
theorem w_i2l (hc : mt_cd y pc = some (.i2l)) (kk : mi_W d y (pc + 1) ls (.long a.toInt64 :: st) h Q) : mi_W d y pc ls (.int a :: st) h Q := mi_W.s hc rfl kk
theorem w_l2i (hc : mt_cd y pc = some (.l2i)) (kk : mi_W d y (pc + 1) ls (.int la.toInt32 :: st) h Q) : mi_W d y pc ls (.long la :: st) h Q := mi_W.s hc rfl kk
theorem w_i2b (hc : mt_cd y pc = some (.i2b)) (kk : mi_W d y (pc + 1) ls (.int a.toInt8.toInt32 :: st) h Q) : mi_W d y pc ls (.int a :: st) h Q := mi_W.s hc rfl kk
theorem w_i2s (hc : mt_cd y pc = some (.i2s)) (kk : mi_W d y (pc + 1) ls (.int a.toInt16.toInt32 :: st) h Q) : mi_W d y pc ls (.int a :: st) h Q := mi_W.s hc rfl kk
theorem w_i2c (hc : mt_cd y pc = some (.i2c)) (kk : mi_W d y (pc + 1) ls (.int (a.toUInt32 % 65536).toInt32 :: st) h Q) : mi_W d y pc ls (.int a :: st) h Q := mi_W.s hc rfl kk
theorem w_dup_i (hc : mt_cd y pc = some (.dup)) (kk : mi_W d y (pc + 1) ls (.int a :: .int a :: st) h Q) : mi_W d y pc ls (.int a :: st) h Q := mi_W.s hc rfl kk
theorem w_dup_r (hc : mt_cd y pc = some (.dup)) (kk : mi_W d y (pc + 1) ls (.ref q :: .ref q :: st) h Q) : mi_W d y pc ls (.ref q :: st) h Q := mi_W.s hc rfl kk
theorem w_pop_i (hc : mt_cd y pc = some (.pop)) (kk : mi_W d y (pc + 1) ls (st) h Q) : mi_W d y pc ls (.int a :: st) h Q := mi_W.s hc rfl kk
theorem w_pop_r (hc : mt_cd y pc = some (.pop)) (kk : mi_W d y (pc + 1) ls (st) h Q) : mi_W d y pc ls (.ref q :: st) h Q := mi_W.s hc rfl kk
theorem w_dup_x1_ir (hc : mt_cd y pc = some (.dup_x1)) (kk : mi_W d y (pc + 1) ls (.int a :: .ref q :: .int a :: st) h Q) : mi_W d y pc ls (.int a :: .ref q :: st) h Q := mi_W.s hc rfl kk
theorem w_dup_x1_rr (hc : mt_cd y pc = some (.dup_x1)) (kk : mi_W d y (pc + 1) ls (.ref q2 :: .ref q :: .ref q2 :: st) h Q) : mi_W d y pc ls (.ref q2 :: .ref q :: st) h Q := mi_W.s hc rfl kk
theorem w_dup_x2_iir (hc : mt_cd y pc = some (.dup_x2)) (kk : mi_W d y (pc + 1) ls (.int a :: .int b :: .ref q :: .int a :: st) h Q) : mi_W d y pc ls (.int a :: .int b :: .ref q :: st) h Q := mi_W.s hc rfl kk
theorem w_dup2_l (hc : mt_cd y pc = some (.dup2)) (kk : mi_W d y (pc + 1) ls (.long la :: .long la :: st) h Q) : mi_W d y pc ls (.long la :: st) h Q := mi_W.s hc rfl kk
theorem w_dup2_ir (hc : mt_cd y pc = some (.dup2)) (kk : mi_W d y (pc + 1) ls (.int a :: .ref q :: .int a :: .ref q :: st) h Q) : mi_W d y pc ls (.int a :: .ref q :: st) h Q := mi_W.s hc rfl kk
theorem w_pop2_l (hc : mt_cd y pc = some (.pop2)) (kk : mi_W d y (pc + 1) ls (st) h Q) : mi_W d y pc ls (.long la :: st) h Q := mi_W.s hc rfl kk
theorem w_dup2_x1_lr (hc : mt_cd y pc = some (.dup2_x1)) (kk : mi_W d y (pc + 1) ls (.long la :: .ref q :: .long la :: st) h Q) : mi_W d y pc ls (.long la :: .ref q :: st) h Q := mi_W.s hc rfl kk
theorem w_dup2_x2_lir (hc : mt_cd y pc = some (.dup2_x2)) (kk : mi_W d y (pc + 1) ls (.long la :: .int b :: .ref q :: .long la :: st) h Q) : mi_W d y pc ls (.long la :: .int b :: .ref q :: st) h Q := mi_W.s hc rfl kk
theorem w_ifeq (hc : mt_cd y pc = some (.ifCond .eq off)) (hj : mi_j pc off = some t) (k1 : a = 0 → mi_W d y t ls st h Q) (k2 : ¬ (a = 0) → mi_W d y (pc + 3) ls st h Q) : mi_W d y pc ls (.int a :: st) h Q := by
  by_cases hp : a = 0
  · exact mi_W.s hc (by simp only [mi_s, mi_sA, mi_sD, mi_sB, mi_sC, hj, Option.bind_some, if_pos hp]) (k1 hp)
  · exact mi_W.s hc (by simp only [mi_s, mi_sA, mi_sD, mi_sB, mi_sC, hj, Option.bind_some, if_neg hp]) (k2 hp)
theorem w_if_icmpeq (hc : mt_cd y pc = some (.if_icmp .eq off)) (hj : mi_j pc off = some t) (k1 : a = b → mi_W d y t ls st h Q) (k2 : ¬ (a = b) → mi_W d y (pc + 3) ls st h Q) : mi_W d y pc ls (.int b :: .int a :: st) h Q := by
  by_cases hp : a = b
  · exact mi_W.s hc (by simp only [mi_s, mi_sA, mi_sD, mi_sB, mi_sC, hj, Option.bind_some, if_pos hp]) (k1 hp)
  · exact mi_W.s hc (by simp only [mi_s, mi_sA, mi_sD, mi_sB, mi_sC, hj, Option.bind_some, if_neg hp]) (k2 hp)
theorem w_ifne (hc : mt_cd y pc = some (.ifCond .ne off)) (hj : mi_j pc off = some t) (k1 : ¬ a = 0 → mi_W d y t ls st h Q) (k2 : ¬ (¬ a = 0) → mi_W d y (pc + 3) ls st h Q) : mi_W d y pc ls (.int a :: st) h Q := by
  by_cases hp : ¬ a = 0
  · exact mi_W.s hc (by simp only [mi_s, mi_sA, mi_sD, mi_sB, mi_sC, hj, Option.bind_some, if_pos hp]) (k1 hp)
  · exact mi_W.s hc (by simp only [mi_s, mi_sA, mi_sD, mi_sB, mi_sC, hj, Option.bind_some, if_neg hp]) (k2 hp)
theorem w_if_icmpne (hc : mt_cd y pc = some (.if_icmp .ne off)) (hj : mi_j pc off = some t) (k1 : ¬ a = b → mi_W d y t ls st h Q) (k2 : ¬ (¬ a = b) → mi_W d y (pc + 3) ls st h Q) : mi_W d y pc ls (.int b :: .int a :: st) h Q := by
  by_cases hp : ¬ a = b
  · exact mi_W.s hc (by simp only [mi_s, mi_sA, mi_sD, mi_sB, mi_sC, hj, Option.bind_some, if_pos hp]) (k1 hp)
  · exact mi_W.s hc (by simp only [mi_s, mi_sA, mi_sD, mi_sB, mi_sC, hj, Option.bind_some, if_neg hp]) (k2 hp)
theorem w_iflt (hc : mt_cd y pc = some (.ifCond .lt off)) (hj : mi_j pc off = some t) (k1 : a < 0 → mi_W d y t ls st h Q) (k2 : ¬ (a < 0) → mi_W d y (pc + 3) ls st h Q) : mi_W d y pc ls (.int a :: st) h Q := by
  by_cases hp : a < 0
  · exact mi_W.s hc (by simp only [mi_s, mi_sA, mi_sD, mi_sB, mi_sC, hj, Option.bind_some, if_pos hp]) (k1 hp)
  · exact mi_W.s hc (by simp only [mi_s, mi_sA, mi_sD, mi_sB, mi_sC, hj, Option.bind_some, if_neg hp]) (k2 hp)
theorem w_if_icmplt (hc : mt_cd y pc = some (.if_icmp .lt off)) (hj : mi_j pc off = some t) (k1 : a < b → mi_W d y t ls st h Q) (k2 : ¬ (a < b) → mi_W d y (pc + 3) ls st h Q) : mi_W d y pc ls (.int b :: .int a :: st) h Q := by
  by_cases hp : a < b
  · exact mi_W.s hc (by simp only [mi_s, mi_sA, mi_sD, mi_sB, mi_sC, hj, Option.bind_some, if_pos hp]) (k1 hp)
  · exact mi_W.s hc (by simp only [mi_s, mi_sA, mi_sD, mi_sB, mi_sC, hj, Option.bind_some, if_neg hp]) (k2 hp)
theorem w_ifge (hc : mt_cd y pc = some (.ifCond .ge off)) (hj : mi_j pc off = some t) (k1 : 0 ≤ a → mi_W d y t ls st h Q) (k2 : ¬ (0 ≤ a) → mi_W d y (pc + 3) ls st h Q) : mi_W d y pc ls (.int a :: st) h Q := by
  by_cases hp : 0 ≤ a
  · exact mi_W.s hc (by simp only [mi_s, mi_sA, mi_sD, mi_sB, mi_sC, hj, Option.bind_some, if_pos hp]) (k1 hp)
  · exact mi_W.s hc (by simp only [mi_s, mi_sA, mi_sD, mi_sB, mi_sC, hj, Option.bind_some, if_neg hp]) (k2 hp)
theorem w_if_icmpge (hc : mt_cd y pc = some (.if_icmp .ge off)) (hj : mi_j pc off = some t) (k1 : b ≤ a → mi_W d y t ls st h Q) (k2 : ¬ (b ≤ a) → mi_W d y (pc + 3) ls st h Q) : mi_W d y pc ls (.int b :: .int a :: st) h Q := by
  by_cases hp : b ≤ a
  · exact mi_W.s hc (by simp only [mi_s, mi_sA, mi_sD, mi_sB, mi_sC, hj, Option.bind_some, if_pos hp]) (k1 hp)
  · exact mi_W.s hc (by simp only [mi_s, mi_sA, mi_sD, mi_sB, mi_sC, hj, Option.bind_some, if_neg hp]) (k2 hp)
theorem w_ifgt (hc : mt_cd y pc = some (.ifCond .gt off)) (hj : mi_j pc off = some t) (k1 : 0 < a → mi_W d y t ls st h Q) (k2 : ¬ (0 < a) → mi_W d y (pc + 3) ls st h Q) : mi_W d y pc ls (.int a :: st) h Q := by
  by_cases hp : 0 < a
  · exact mi_W.s hc (by simp only [mi_s, mi_sA, mi_sD, mi_sB, mi_sC, hj, Option.bind_some, if_pos hp]) (k1 hp)
  · exact mi_W.s hc (by simp only [mi_s, mi_sA, mi_sD, mi_sB, mi_sC, hj, Option.bind_some, if_neg hp]) (k2 hp)
theorem w_if_icmpgt (hc : mt_cd y pc = some (.if_icmp .gt off)) (hj : mi_j pc off = some t) (k1 : b < a → mi_W d y t ls st h Q) (k2 : ¬ (b < a) → mi_W d y (pc + 3) ls st h Q) : mi_W d y pc ls (.int b :: .int a :: st) h Q := by
  by_cases hp : b < a
  · exact mi_W.s hc (by simp only [mi_s, mi_sA, mi_sD, mi_sB, mi_sC, hj, Option.bind_some, if_pos hp]) (k1 hp)
  · exact mi_W.s hc (by simp only [mi_s, mi_sA, mi_sD, mi_sB, mi_sC, hj, Option.bind_some, if_neg hp]) (k2 hp)
theorem w_ifle (hc : mt_cd y pc = some (.ifCond .le off)) (hj : mi_j pc off = some t) (k1 : a ≤ 0 → mi_W d y t ls st h Q) (k2 : ¬ (a ≤ 0) → mi_W d y (pc + 3) ls st h Q) : mi_W d y pc ls (.int a :: st) h Q := by
  by_cases hp : a ≤ 0
  · exact mi_W.s hc (by simp only [mi_s, mi_sA, mi_sD, mi_sB, mi_sC, hj, Option.bind_some, if_pos hp]) (k1 hp)
  · exact mi_W.s hc (by simp only [mi_s, mi_sA, mi_sD, mi_sB, mi_sC, hj, Option.bind_some, if_neg hp]) (k2 hp)
theorem w_if_icmple (hc : mt_cd y pc = some (.if_icmp .le off)) (hj : mi_j pc off = some t) (k1 : a ≤ b → mi_W d y t ls st h Q) (k2 : ¬ (a ≤ b) → mi_W d y (pc + 3) ls st h Q) : mi_W d y pc ls (.int b :: .int a :: st) h Q := by
  by_cases hp : a ≤ b
  · exact mi_W.s hc (by simp only [mi_s, mi_sA, mi_sD, mi_sB, mi_sC, hj, Option.bind_some, if_pos hp]) (k1 hp)
  · exact mi_W.s hc (by simp only [mi_s, mi_sA, mi_sD, mi_sB, mi_sC, hj, Option.bind_some, if_neg hp]) (k2 hp)
theorem w_goto (hc : mt_cd y pc = some (.goto off)) (hj : mi_j pc off = some t) (kk : mi_W d y t ls st h Q) : mi_W d y pc ls st h Q := mi_W.s hc (by simp only [mi_s, mi_sA, mi_sD, mi_sB, mi_sC, hj, Option.bind_some]) kk
theorem w_ifnull_r (hc : mt_cd y pc = some (.ifnull off)) (kk : mi_W d y (pc + 3) ls st h Q) : mi_W d y pc ls (.ref q :: st) h Q := mi_W.s hc rfl kk
theorem w_ifnull_n (hc : mt_cd y pc = some (.ifnull off)) (hj : mi_j pc off = some t) (kk : mi_W d y t ls st h Q) : mi_W d y pc ls (.null :: st) h Q := mi_W.s hc (by simp only [mi_s, mi_sA, mi_sD, mi_sB, mi_sC, hj, Option.bind_some]) kk
theorem w_ifnonnull_r (hc : mt_cd y pc = some (.ifnonnull off)) (hj : mi_j pc off = some t) (kk : mi_W d y t ls st h Q) : mi_W d y pc ls (.ref q :: st) h Q := mi_W.s hc (by simp only [mi_s, mi_sA, mi_sD, mi_sB, mi_sC, hj, Option.bind_some]) kk
theorem w_ifnonnull_n (hc : mt_cd y pc = some (.ifnonnull off)) (kk : mi_W d y (pc + 3) ls st h Q) : mi_W d y pc ls (.null :: st) h Q := mi_W.s hc rfl kk
def mi_ts (pc : Nat) (df lo hi : Int) (offs : Array Int) (a : Int) : Option Nat := if a < lo ∨ hi < a then mi_j pc df else (offs[(a - lo).toNat]?).bind (fun off => mi_j pc off)
theorem w_tableswitch {df lo hi : Int} {offs : Array Int} (hc : mt_cd y pc = some (.tableswitch df lo hi offs)) (ht : mi_ts pc df lo hi offs a.toInt = some t) (kk : mi_W d y t ls st h Q) : mi_W d y pc ls (.int a :: st) h Q := by
  refine mi_W.s hc ?_ kk
  simp only [mi_s, mi_sA, mi_sD, mi_sB, mi_sC]
  unfold mi_ts at ht
  split at ht
  · rename_i hp
    simp only [if_pos hp, ht, Option.bind_some]
  · rename_i hp
    rw [if_neg hp]
    cases ho : offs[(a.toInt - lo).toNat]? with
    | none => rw [ho] at ht; cases ht
    | some off =>
      rw [ho] at ht
      simp only [Option.bind_some] at ht ⊢
      simp only [ht, Option.bind_some]
theorem w_lookupswitch {df : Int} {ps : Array (Int × Int)} (hc : mt_cd y pc = some (.lookupswitch df ps)) (hs : (ps.toList.zip (ps.toList.drop 1)).all (fun (a, next) => a.1 < next.1) = true) (ht : mi_j pc (Op.lookupswitch.offset ps.toList df a.toInt) = some t) (kk : mi_W d y t ls st h Q) : mi_W d y pc ls (.int a :: st) h Q :=
  mi_W.s hc (by simp only [mi_s, mi_sA, mi_sD, mi_sB, mi_sC, if_pos hs, ht, Option.bind_some]) kk
theorem w_getfield (hc : mt_cd y pc = some (.getfield idx)) (hf : mt_f (mt_oc y) idx = some (ci, kf)) (hq : h.2.2 q = .inr (ci, fs)) (hn : q < h.1) (hv : fs[kf]? = some w) (kk : mi_W d y (pc + 3) ls (w :: st) h Q) : mi_W d y pc ls (.ref q :: st) h Q :=
  mi_W.s hc (by unfold mi_s mi_sA mi_sD; dsimp only; rw [hf, hq]; dsimp only; rw [if_pos ⟨hn, rfl⟩, hv]) kk
theorem w_putfield (hc : mt_cd y pc = some (.putfield idx)) (hf : mt_f (mt_oc y) idx = some (ci, kf)) (hq : h.2.2 q = .inr (ci, fs)) (hn : q < h.1) (hv : kf < fs.length ∧ mi_fk (mt_ft ci kf) w = true ∧ (mt_fn ci kf = false ∨ mt_in y ci = true)) (kk : mi_W d y (pc + 3) ls st (h.1, h.2.1, va_up h.2.2 q (.inr (ci, fs.set kf w))) Q) : mi_W d y pc ls (w :: .ref q :: st) h Q :=
  mi_W.s hc (by unfold mi_s mi_sA mi_sD; dsimp only; rw [hf, hq]; dsimp only; rw [if_pos ⟨hn, rfl, hv⟩]) kk
theorem w_iaload {g : Nat → Int32} (hc : mt_cd y pc = some .iaload) (hq : h.2.2 q = .inl (0, n, .inl g)) (hn : q < h.1 ∨ q = mi_SC) (hj : mi_ix a n m) (kk : mi_W d y (pc + 1) ls (.int (g m) :: st) h Q) : mi_W d y pc ls (.int a :: .ref q :: st) h Q :=
  mi_W.s hc (by simp only [mi_s, mi_sA, mi_sD, hq, if_pos (And.intro hn hj.ok)]; rw [hj.2.1]) kk
theorem w_baload1 {g : Nat → Int32} (hc : mt_cd y pc = some .baload) (hq : h.2.2 q = .inl (1, n, .inl g)) (hn : q < h.1) (hj : mi_ix a n m) (kk : mi_W d y (pc + 1) ls (.int (g m) :: st) h Q) : mi_W d y pc ls (.int a :: .ref q :: st) h Q :=
  mi_W.s hc (by simp only [mi_s, mi_sA, mi_sD, hq, if_pos (And.intro hn hj.ok)]; rw [hj.2.1]) kk
theorem w_baload2 {g : Nat → Int32} (hc : mt_cd y pc = some .baload) (hq : h.2.2 q = .inl (2, n, .inl g)) (hn : q < h.1) (hj : mi_ix a n m) (kk : mi_W d y (pc + 1) ls (.int (g m) :: st) h Q) : mi_W d y pc ls (.int a :: .ref q :: st) h Q :=
  mi_W.s hc (by simp only [mi_s, mi_sA, mi_sD, hq, if_pos (And.intro hn hj.ok)]; rw [hj.2.1]) kk
theorem w_laload {g : Nat → Int64} (hc : mt_cd y pc = some .laload) (hq : h.2.2 q = .inl (3, n, .inr (.inl g))) (hn : q < h.1) (hj : mi_ix a n m) (kk : mi_W d y (pc + 1) ls (.long (g m) :: st) h Q) : mi_W d y pc ls (.int a :: .ref q :: st) h Q :=
  mi_W.s hc (by simp only [mi_s, mi_sA, mi_sD, hq, if_pos (And.intro hn hj.ok)]; rw [hj.2.1]) kk
theorem w_aaload {g : Nat → Option Nat} {ka : Nat} (hc : mt_cd y pc = some .aaload) (hq : h.2.2 q = .inl (ka, n, .inr (.inr (.inr (.inr g))))) (hn : q < h.1) (hka : 4 ≤ ka ∧ ka < mt_na) (hj : mi_ix a n m) (hv : va_rf (g m) = w) (kk : mi_W d y (pc + 1) ls (w :: st) h Q) : mi_W d y pc ls (.int a :: .ref q :: st) h Q :=
  mi_W.s hc (by subst hv; simp only [mi_s, mi_sA, mi_sD, hq, if_pos (And.intro (And.intro hn hka) hj.ok)]; rw [hj.2.1]) kk
theorem w_iastore {g : Nat → Int32} (hc : mt_cd y pc = some .iastore) (hq : h.2.2 q = .inl (0, n, .inl g)) (hn : q < h.1) (hj : mi_ix a n m) (kk : mi_W d y (pc + 1) ls st (h.1, h.2.1, va_up h.2.2 q (.inl (0, n, .inl (upd g m x)))) Q) : mi_W d y pc ls (.int x :: .int a :: .ref q :: st) h Q :=
  mi_W.s hc (by simp only [mi_s, mi_sA, mi_sD, hq, if_pos (And.intro hn hj.ok)]; rw [hj.2.1]) kk
theorem w_bastore1 {g : Nat → Int32} (hc : mt_cd y pc = some .bastore) (hq : h.2.2 q = .inl (1, n, .inl g)) (hn : q < h.1) (hj : mi_ix a n m) (kk : mi_W d y (pc + 1) ls st (h.1, h.2.1, va_up h.2.2 q (.inl (1, n, .inl (upd g m (vp_nar .byte x))))) Q) : mi_W d y pc ls (.int x :: .int a :: .ref q :: st) h Q :=
  mi_W.s hc (by simp only [mi_s, mi_sA, mi_sD, hq, if_pos (And.intro hn hj.ok)]; rw [hj.2.1]) kk
theorem w_bastore2 {g : Nat → Int32} (hc : mt_cd y pc = some .bastore) (hq : h.2.2 q = .inl (2, n, .inl g)) (hn : q < h.1) (hj : mi_ix a n m) (kk : mi_W d y (pc + 1) ls st (h.1, h.2.1, va_up h.2.2 q (.inl (2, n, .inl (upd g m (vp_nar .boolean x))))) Q) : mi_W d y pc ls (.int x :: .int a :: .ref q :: st) h Q :=
  mi_W.s hc (by simp only [mi_s, mi_sA, mi_sD, hq, if_pos (And.intro hn hj.ok)]; rw [hj.2.1]) kk
theorem w_lastore {g : Nat → Int64} (hc : mt_cd y pc = some .lastore) (hq : h.2.2 q = .inl (3, n, .inr (.inl g))) (hn : q < h.1) (hj : mi_ix a n m) (kk : mi_W d y (pc + 1) ls st (h.1, h.2.1, va_up h.2.2 q (.inl (3, n, .inr (.inl (vp_updL g m lx))))) Q) : mi_W d y pc ls (.long lx :: .int a :: .ref q :: st) h Q :=
  mi_W.s hc (by simp only [mi_s, mi_sA, mi_sD, hq, if_pos (And.intro hn hj.ok)]; rw [hj.2.1]) kk
theorem w_aastore {g : Nat → Option Nat} {ka : Nat} (hc : mt_cd y pc = some .aastore) (hq : h.2.2 q = .inl (ka, n, .inr (.inr (.inr (.inr g))))) (hn : q < h.1) (hv : h.2.2 q2 = .inr (ci, fs)) (hn2 : q2 < h.1) (hka : mt_ac ka = some ci) (hj : mi_ix a n m) (kk : mi_W d y (pc + 1) ls st (h.1, h.2.1, va_up h.2.2 q (.inl (ka, n, .inr (.inr (.inr (.inr (va_up g m (some q2)))))))) Q) : mi_W d y pc ls (.ref q2 :: .int a :: .ref q :: st) h Q :=
  mi_W.s hc (by simp only [mi_s, mi_sA, mi_sD, hq, hv, if_pos (And.intro (And.intro hn (And.intro hn2 hka)) hj.ok)]; rw [hj.2.1]) kk
theorem w_arraylength {ka : Nat} {g} (hc : mt_cd y pc = some .arraylength) (hq : h.2.2 q = .inl (ka, n, g)) (hn : q < h.1 ∧ ka < mt_na) (kk : mi_W d y (pc + 1) ls (.int (Int32.ofNat n) :: st) h Q) : mi_W d y pc ls (.ref q :: st) h Q :=
  mi_W.s hc (by simp only [mi_s, mi_sA, mi_sD, hq, if_pos hn]) kk
theorem w_arraylengthS {ka : Nat} {g} (hc : mt_cd y pc = some .arraylength) (hq : h.2.2 mi_SC = .inl (ka, n, g)) (kk : mi_W d y (pc + 1) ls (.int (Int32.ofNat n) :: st) h Q) : mi_W d y pc ls (.ref mi_SC :: st) h Q := by
  refine mi_W.s hc ?_ kk
  by_cases hp : mi_SC < h.1 ∧ ka < mt_na
  · simp only [mi_s, mi_sA, mi_sD, hq, if_pos hp]
  · simp only [mi_s, mi_sA, mi_sD, hq, if_neg hp, if_true]
theorem w_new (hc : mt_cd y pc = some (.new idx)) (hi : mt_c (mt_oc y) idx = some ci) (hw : mt_nw ci = true) (hn : h.1 + 1 ≤ mi_NC ∧ h.2.1 + mt_nf ci ≤ mi_NS) (kk : mi_W d y (pc + 3) ls (.ref h.1 :: st) (h.1 + 1, h.2.1 + mt_nf ci, va_up h.2.2 h.1 (.inr (ci, mt_df ci))) Q) : mi_W d y pc ls st h Q :=
  mi_W.s hc (by unfold mi_s mi_sA mi_sD; dsimp only; rw [hi]; dsimp only; rw [if_pos ⟨hw, hn⟩]) kk
theorem w_newarray {aty : ArrayType} {ka : Nat} {z} (hc : mt_cd y pc = some (.newarray aty)) (hi : mi_at aty = some (ka, z)) (hj : ¬ a < 0 ∧ a.toNatClampNeg = m ∧ m ≤ 1000000) (hn : h.1 + 1 ≤ mi_NC ∧ h.2.1 + m ≤ mi_NS) (kk : mi_W d y (pc + 2) ls (.ref h.1 :: st) (h.1 + 1, h.2.1 + m, va_up h.2.2 h.1 (.inl (ka, m, z))) Q) : mi_W d y pc ls (.int a :: st) h Q :=
  mi_W.s hc (by
    obtain ⟨j1, j2, j3⟩ := hj
    subst j2
    unfold mi_s mi_sA mi_sD; dsimp only; rw [hi]; dsimp only; rw [if_pos ⟨j1, j3, hn⟩]) kk
theorem w_anewarray {ka : Nat} (hc : mt_cd y pc = some (.anewarray idx)) (hi : mt_c (mt_oc y) idx = some ci) (hka : mt_ka ci = some ka) (hj : ¬ a < 0 ∧ a.toNatClampNeg = m ∧ m ≤ 1000000) (hn : h.1 + 1 ≤ mi_NC ∧ h.2.1 + m ≤ mi_NS) (kk : mi_W d y (pc + 3) ls (.ref h.1 :: st) (h.1 + 1, h.2.1 + m, va_up h.2.2 h.1 (.inl (ka, m, .inr (.inr (.inr (.inr (fun _ => none))))))) Q) : mi_W d y pc ls (.int a :: st) h Q :=
  mi_W.s hc (by
    obtain ⟨j1, j2, j3⟩ := hj
    subst j2
    unfold mi_s mi_sA mi_sD; dsimp only; rw [hi]; dsimp only; rw [hka]; dsimp only; rw [if_pos ⟨j1, j3, hn⟩]) kk
theorem w_ldc2_w (hc : mt_cd y pc = some (.ldc2_w idx)) (hv : mt_l (mt_oc y) idx = some lv) (kk : mi_W d y (pc + 3) ls (.long lv :: st) h Q) : mi_W d y pc ls st h Q := mi_W.s hc (by simp only [mi_s, mi_sA, mi_sD, mi_sB, mi_sC, mi_sE, hv]) kk
theorem w_ldc (hc : mt_cd y pc = some (.ldc idx)) (hv : mt_s (mt_oc y) idx = some n) (kk : mi_W d y (pc + 2) ls (.ref (mi_SC + 1 + 2 * n) :: st) h Q) : mi_W d y pc ls st h Q := mi_W.s hc (by simp only [mi_s, mi_sA, mi_sD, mi_sB, mi_sC, mi_sE, hv]) kk
theorem w_ldc_w (hc : mt_cd y pc = some (.ldc_w idx)) (hv : mt_s (mt_oc y) idx = some n) (kk : mi_W d y (pc + 3) ls (.ref (mi_SC + 1 + 2 * n) :: st) h Q) : mi_W d y pc ls st h Q := mi_W.s hc (by simp only [mi_s, mi_sA, mi_sD, mi_sB, mi_sC, mi_sE, hv]) kk
theorem w_oinit (hc : mt_cd y pc = some (.invokespecial idx)) (ho : mt_oi.contains (mt_oc y, idx) = true) (hw : (st.map fun v => v.category).sum ≤ 8) (kk : mi_W d y (pc + 3) ls st h Q) : mi_W d y pc ls (.ref q :: st) h Q :=
  mi_W.s hc (by simp only [mi_s, mi_sA, mi_sD, mi_sB, mi_sC, mi_sE, if_pos (show mt_oi.contains (mt_oc y, idx) = true ∧ (st.map fun v => v.category).sum ≤ 8 from ⟨ho, hw⟩)]) kk
theorem w_arraycopy {g1 g2 : Nat → Int64} {n0 n1 : Nat} (hc : mt_cd y pc = some (.invokestatic idx)) (hay : mt_ay.contains (mt_oc y, idx) = true) (h1 : h.2.2 q = .inl (3, n0, .inr (.inl g1))) (hn1 : q < h.1) (h2 : h.2.2 q2 = .inl (3, n1, .inr (.inl g2))) (hn2 : q2 < h.1) (hw : (st.map fun v => v.category).sum ≤ 8) (hb : ¬ a < 0 ∧ ¬ b < 0 ∧ ¬ x < 0 ∧ a.toNatClampNeg + x.toNatClampNeg ≤ n0 ∧ b.toNatClampNeg + x.toNatClampNeg ≤ n1) (kk : mi_W d y (pc + 3) ls st (h.1, h.2.1, va_up h.2.2 q2 (.inl (3, n1, .inr (.inl (va_cpy g1 g2 a.toNatClampNeg b.toNatClampNeg x.toNatClampNeg))))) Q) : mi_W d y pc ls (.int x :: .int b :: .ref q2 :: .int a :: .ref q :: st) h Q :=
  mi_W.s hc (by simp only [mi_s, mi_sA, mi_sD, mi_sB, mi_sC, mi_sE, h1, h2, if_pos (And.intro (And.intro hay (And.intro hn1 (And.intro hn2 hw))) hb)]) kk
theorem w_aastoreS {g : Nat → Option Nat} (hc : mt_cd y pc = some .aastore) (hq : h.2.2 q = .inl (5, n, .inr (.inr (.inr (.inr g))))) (hn : q < h.1) (hle : h.1 ≤ mi_SC) (hv : mi_SC < q2 ∧ (q2 - mi_SC - 1) % 2 = 0 ∧ (q2 - mi_SC - 1) / 2 < mt_ns) (hj : mi_ix a n m) (kk : mi_W d y (pc + 1) ls st (h.1, h.2.1, va_up h.2.2 q (.inl (5, n, .inr (.inr (.inr (.inr (va_up g m (some q2)))))))) Q) : mi_W d y pc ls (.ref q2 :: .int a :: .ref q :: st) h Q := by
  have hlt : ¬ q2 < h.1 := fun z => by omega
  refine mi_W.s hc ?_ kk
  cases hx : h.2.2 q2 with
  | inl z => simp only [mi_s, mi_sA, mi_sD, mi_sB, mi_sC, mi_sE, hq, hx, if_pos (And.intro (And.intro hn hv) hj.ok)]; rw [hj.2.1]
  | inr z =>
    obtain ⟨ci, fs⟩ := z
    simp only [mi_s, mi_sA, mi_sD, mi_sB, mi_sC, mi_sE, hq, hx, if_neg (show ¬ ((q < h.1 ∧ q2 < h.1 ∧ mt_ac 5 = some ci) ∧ ¬ (a < 0 ∨ n ≤ a.toNatClampNeg)) from fun z => hlt z.1.2.1), if_pos (And.intro (And.intro hn hv) hj.ok)]; rw [hj.2.1]
/-! ends and calls -/
theorem w_ireturn_i (hc : mt_cd y pc = some .ireturn) (hr : mt_rt y = some .int) (hq : Q (.inl (some (.int a))) h) : mi_W d y pc ls [.int a] h Q := mi_W.e hc rfl (by rw [hr]; rfl) hq
theorem w_ireturn_z (hc : mt_cd y pc = some .ireturn) (hr : mt_rt y = some .boolean) (ha : a = 0 ∨ a = 1) (hq : Q (.inl (some (.int a))) h) : mi_W d y pc ls [.int a] h Q := mi_W.e hc rfl (by rw [hr]; simp only [mi_e, if_pos ha]) hq
theorem w_lreturn (hc : mt_cd y pc = some .lreturn) (hr : mt_rt y = some .long) (hq : Q (.inl (some (.long la))) h) : mi_W d y pc ls [.long la] h Q := mi_W.e hc rfl (by rw [hr]; rfl) hq
theorem w_return (hc : mt_cd y pc = some .return_) (hr : mt_rt y = none) (hq : Q (.inl none) h) : mi_W d y pc ls [] h Q := mi_W.e hc rfl (by rw [hr]; rfl) hq
theorem w_throw {h' : mi_H} (hc : mt_cd y pc = some (.new idx)) (hi : mt_c (mt_oc y) idx = some ci) (hw : mt_nw ci = false) (ht : mi_t y pc (.new idx) st h = some h') (hq : Q (.inr h.1) h') : mi_W d y pc ls st h Q :=
  mi_W.t hc (by simp [mi_s, mi_sA, mi_sD, mi_sB, mi_sC, mi_sE, hi, hw]) rfl ht hq
theorem w_invokevirtual {as : List Value} (hc : mt_cd y pc = some (.invokevirtual idx)) (hm : mt_m (mt_oc y) idx = some (y2, 0)) (hd : st.drop (mt_np y2) = .ref q :: rest) (ha : .ref q :: (st.take (mt_np y2)).reverse = as) (hq : h.2.2 q = .inr (mt_oc y2, fs)) (hn : q < h.1 ∨ (mi_SC < q ∧ (q - mi_SC - 1) / 2 < mt_ns)) (hl : mt_np y2 ≤ st.length ∧ (rest.map fun v => v.category).sum ≤ 8 ∧ (lg_sl as).length ≤ mt_ml y2) (kk : mi_W d y2 0 (mi_en (mt_ml y2) as) [] h (mi_Kc d y pc ls rest Q)) : mi_W (d + 1) y pc ls st h Q := by
  subst ha
  exact mi_W.c hc rfl rfl rfl (by simp only [mi_i, hm, hd, hq]; rw [if_pos ⟨⟨hn, trivial⟩, hl⟩]) kk
theorem w_invokestatic {as : List Value} (hc : mt_cd y pc = some (.invokestatic idx)) (hm : mt_m (mt_oc y) idx = some (y2, 4)) (hay : mt_ay.contains (mt_oc y, idx) = false) (hd : st.drop (mt_np y2) = rest) (ha : (st.take (mt_np y2)).reverse = as) (hl : mt_np y2 ≤ st.length ∧ (rest.map fun v => v.category).sum ≤ 8 ∧ (lg_sl as).length ≤ mt_ml y2) (kk : mi_W d y2 0 (mi_en (mt_ml y2) as) [] h (mi_Kc d y pc ls rest Q)) : mi_W (d + 1) y pc ls st h Q := by
  subst ha
  subst hd
  refine mi_W.c hc ?_ rfl rfl (by simp only [mi_i, hm]; rw [if_pos hl]) kk
  simp only [mi_s, mi_sA, mi_sD, mi_sB, mi_sC, mi_sE]
  repeat' split
  all_goals first | rfl | (rename_i hx; rw [hay] at hx; exact absurd hx.1.1 (by decide))
theorem w_invokespecial {as : List Value} {kd : Nat} (hc : mt_cd y pc = some (.invokespecial idx)) (hm : mt_m (mt_oc y) idx = some (y2, kd)) (hkd : kd = 2 ∨ kd = 3) (hoi : mt_oi.contains (mt_oc y, idx) = false) (hd : st.drop (mt_np y2) = .ref q :: rest) (ha : .ref q :: (st.take (mt_np y2)).reverse = as) (hn : q < h.1) (hl : mt_np y2 ≤ st.length ∧ (rest.map fun v => v.category).sum ≤ 8 ∧ (lg_sl as).length ≤ mt_ml y2) (kk : mi_W d y2 0 (mi_en (mt_ml y2) as) [] h (mi_Kc d y pc ls rest Q)) : mi_W (d + 1) y pc ls st h Q := by
  subst ha
  refine mi_W.c hc ?_ rfl rfl (by simp only [mi_i, hm, hd]; rw [if_pos ⟨⟨hn, hkd⟩, hl⟩]) kk
  simp only [mi_s, mi_sA, mi_sD, mi_sB, mi_sC, mi_sE]
  split
  · split
    · rename_i hx; rw [hoi] at hx; exact absurd hx.1 (by decide)
    · rfl
  · rfl
end
