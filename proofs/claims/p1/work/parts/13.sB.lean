def mi_sB (y : Nat) (i : Instr) (pc : Nat) (ls : mi_L) (st : List Value) (h : mi_H) : Option (Nat × mi_L × List Value × mi_H) := match i with
  | .iadd => match st with
    | .int b :: .int a :: r => some (pc + 1, ls, .int (a + b) :: r, h)
    | _ => none
  | .isub => match st with
    | .int b :: .int a :: r => some (pc + 1, ls, .int (a - b) :: r, h)
    | _ => none
  | .imul => match st with
    | .int b :: .int a :: r => some (pc + 1, ls, .int (a * b) :: r, h)
    | _ => none
  | .iand => match st with
    | .int b :: .int a :: r => some (pc + 1, ls, .int (a &&& b) :: r, h)
    | _ => none
  | .ior => match st with
    | .int b :: .int a :: r => some (pc + 1, ls, .int (a ||| b) :: r, h)
    | _ => none
  | .ixor => match st with
    | .int b :: .int a :: r => some (pc + 1, ls, .int (a ^^^ b) :: r, h)
    | _ => none
  | .ishl => match st with
    | .int b :: .int a :: r => some (pc + 1, ls, .int (a <<< (b &&& 31)) :: r, h)
    | _ => none
  | .ishr => match st with
    | .int b :: .int a :: r => some (pc + 1, ls, .int (a >>> (b &&& 31)) :: r, h)
    | _ => none
  | .iushr => match st with
    | .int b :: .int a :: r => some (pc + 1, ls, .int ((a.toUInt32 >>> (b.toUInt32 &&& Int32.toUInt32 31)).toInt32) :: r, h)
    | _ => none
  | .idiv => match st with
    | .int b :: .int a :: r => if ¬ b = 0 then some (pc + 1, ls, .int (a / b) :: r, h) else none
    | _ => none
  | .irem => match st with
    | .int b :: .int a :: r => if ¬ b = 0 then some (pc + 1, ls, .int (a - a / b * b) :: r, h) else none
    | _ => none
  | .ineg => match st with
    | .int a :: r => some (pc + 1, ls, .int (-a) :: r, h)
    | _ => none
  | .ladd => match st with
    | .long b :: .long a :: r => some (pc + 1, ls, .long (a + b) :: r, h)
    | _ => none
  | .lsub => match st with
    | .long b :: .long a :: r => some (pc + 1, ls, .long (a - b) :: r, h)
    | _ => none
  | .lmul => match st with
    | .long b :: .long a :: r => some (pc + 1, ls, .long (a * b) :: r, h)
    | _ => none
  | .land => match st with
    | .long b :: .long a :: r => some (pc + 1, ls, .long (a &&& b) :: r, h)
    | _ => none
  | .lor => match st with
    | .long b :: .long a :: r => some (pc + 1, ls, .long (a ||| b) :: r, h)
    | _ => none
  | .lxor => match st with
    | .long b :: .long a :: r => some (pc + 1, ls, .long (a ^^^ b) :: r, h)
    | _ => none
  | .ldiv => match st with
    | .long b :: .long a :: r => if ¬ b = 0 then some (pc + 1, ls, .long (a / b) :: r, h) else none
    | _ => none
  | .lrem => match st with
    | .long b :: .long a :: r => if ¬ b = 0 then some (pc + 1, ls, .long (a - a / b * b) :: r, h) else none
    | _ => none
  | .lneg => match st with
    | .long a :: r => some (pc + 1, ls, .long (-a) :: r, h)
    | _ => none
  | .lshl => match st with
    | .int b :: .long a :: r => some (pc + 1, ls, .long (a <<< (b.toInt64 &&& 63)) :: r, h)
    | _ => none
  | .lshr => match st with
    | .int b :: .long a :: r => some (pc + 1, ls, .long (a >>> (b.toInt64 &&& 63)) :: r, h)
    | _ => none
  | .lushr => match st with
    | .int b :: .long a :: r => some (pc + 1, ls, .long ((a.toUInt64 >>> (b.toInt64.toUInt64 &&& Int64.toUInt64 63)).toInt64) :: r, h)
    | _ => none
  | .lcmp => match st with
    | .long b :: .long a :: r => some (pc + 1, ls, .int (lg_cmp a b) :: r, h)
    | _ => none
  | .i2l => match st with
    | .int a :: r => some (pc + 1, ls, .long a.toInt64 :: r, h)
    | _ => none
  | .l2i => match st with
    | .long a :: r => some (pc + 1, ls, .int a.toInt32 :: r, h)
    | _ => none
  | .i2b => match st with
    | .int a :: r => some (pc + 1, ls, .int a.toInt8.toInt32 :: r, h)
    | _ => none
  | .i2s => match st with
    | .int a :: r => some (pc + 1, ls, .int a.toInt16.toInt32 :: r, h)
    | _ => none
  | .i2c => match st with
    | .int a :: r => some (pc + 1, ls, .int (a.toUInt32 % 65536).toInt32 :: r, h)
    | _ => none
  | _ => none
section
variable {p : Program} {l : Launch} {e : Env} {R : Room} {s : State} {m : MethodId} {args : Array Value} {below : List Frame} {meth : Method} {c : Code} {H : Heap} {locs : List Loc} {cells slots : Nat} {Q : State → Prop}
variable {B d nL : Nat} {ad : Nat → Nat} {D : va_G} {cA : Nat → ClassId} {cc : ByteArray}
set_option maxHeartbeats 4000000 in
theorem mi_sB_ok {y : Nat} {i : Instr} {pc len pc' : Nat} {ls ls' : mi_L} {st st' : List Value} {h h' : mi_H} {lsR : Array Slot} (K : mi_Kx y cc p s m meth c nL) (hs : mi_sB y i pc ls st h = some (pc', ls', st', h')) (hd : decode cc pc = .ok (i, len)) (hln : mi_len i len = true) (L : mi_LR ad nL ls lsR) (I : mi_I B ad D cA h s H locs cells) (rm : mi_rm d h R cells slots)
    (kk : ∀ (lsR' : Array Slot) (H' : Heap) (locs' : List Loc) (cells' slots' : Nat), mi_I B ad D cA h' s H' locs' cells' → mi_LR ad nL ls' lsR' → mi_rm d h' R cells' slots' → W p l e R s m args below meth c H' locs' cells' slots' Q (F0 m pc' lsR' (st'.map (mi_v ad)))) : W p l e R s m args below meth c H locs cells slots Q (F0 m pc lsR (st.map (mi_v ad))) := by
  have hx := K.1
  have hb := K.2.1
  cases i with
  | iadd =>
    obtain rfl : len = 1 := by simpa [mi_len] using hln
    simp only [mi_sB] at hs
    split at hs
    · simp only [Option.some.injEq, Prod.mk.injEq] at hs; obtain ⟨rfl, rfl, rfl, rfl⟩ := hs
      exact lv_iadd hx hb hd (kk _ _ _ _ _ I L rm)
    · cases hs
  | isub =>
    obtain rfl : len = 1 := by simpa [mi_len] using hln
    simp only [mi_sB] at hs
    split at hs
    · simp only [Option.some.injEq, Prod.mk.injEq] at hs; obtain ⟨rfl, rfl, rfl, rfl⟩ := hs
      exact lv_isub hx hb hd (kk _ _ _ _ _ I L rm)
    · cases hs
  | imul =>
    obtain rfl : len = 1 := by simpa [mi_len] using hln
    simp only [mi_sB] at hs
    split at hs
    · simp only [Option.some.injEq, Prod.mk.injEq] at hs; obtain ⟨rfl, rfl, rfl, rfl⟩ := hs
      exact lv_imul hx hb hd (kk _ _ _ _ _ I L rm)
    · cases hs
  | iand =>
    obtain rfl : len = 1 := by simpa [mi_len] using hln
    simp only [mi_sB] at hs
    split at hs
    · simp only [Option.some.injEq, Prod.mk.injEq] at hs; obtain ⟨rfl, rfl, rfl, rfl⟩ := hs
      exact lv_iand hx hb hd (kk _ _ _ _ _ I L rm)
    · cases hs
  | ior =>
    obtain rfl : len = 1 := by simpa [mi_len] using hln
    simp only [mi_sB] at hs
    split at hs
    · simp only [Option.some.injEq, Prod.mk.injEq] at hs; obtain ⟨rfl, rfl, rfl, rfl⟩ := hs
      exact lv_ior hx hb hd (kk _ _ _ _ _ I L rm)
    · cases hs
  | ixor =>
    obtain rfl : len = 1 := by simpa [mi_len] using hln
    simp only [mi_sB] at hs
    split at hs
    · simp only [Option.some.injEq, Prod.mk.injEq] at hs; obtain ⟨rfl, rfl, rfl, rfl⟩ := hs
      exact lv_ixor hx hb hd (kk _ _ _ _ _ I L rm)
    · cases hs
  | ishl =>
    obtain rfl : len = 1 := by simpa [mi_len] using hln
    simp only [mi_sB] at hs
    split at hs
    · simp only [Option.some.injEq, Prod.mk.injEq] at hs; obtain ⟨rfl, rfl, rfl, rfl⟩ := hs
      exact lv_ishl hx hb hd (kk _ _ _ _ _ I L rm)
    · cases hs
  | ishr =>
    obtain rfl : len = 1 := by simpa [mi_len] using hln
    simp only [mi_sB] at hs
    split at hs
    · simp only [Option.some.injEq, Prod.mk.injEq] at hs; obtain ⟨rfl, rfl, rfl, rfl⟩ := hs
      exact lv_ishr hx hb hd (kk _ _ _ _ _ I L rm)
    · cases hs
  | iushr =>
    obtain rfl : len = 1 := by simpa [mi_len] using hln
    simp only [mi_sB] at hs
    split at hs
    · simp only [Option.some.injEq, Prod.mk.injEq] at hs; obtain ⟨rfl, rfl, rfl, rfl⟩ := hs
      exact lv_iushr hx hb hd rfl (kk _ _ _ _ _ I L rm)
    · cases hs
  | idiv =>
    obtain rfl : len = 1 := by simpa [mi_len] using hln
    simp only [mi_sB] at hs
    split at hs
    · split at hs
      · rename_i hg
        simp only [Option.some.injEq, Prod.mk.injEq] at hs; obtain ⟨rfl, rfl, rfl, rfl⟩ := hs
        exact lv_idiv hx hb hd hg (kk _ _ _ _ _ I L rm)
      · cases hs
    · cases hs
  | irem =>
    obtain rfl : len = 1 := by simpa [mi_len] using hln
    simp only [mi_sB] at hs
    split at hs
    · split at hs
      · rename_i hg
        simp only [Option.some.injEq, Prod.mk.injEq] at hs; obtain ⟨rfl, rfl, rfl, rfl⟩ := hs
        exact lv_irem hx hb hd hg (kk _ _ _ _ _ I L rm)
      · cases hs
    · cases hs
  | ineg =>
    obtain rfl : len = 1 := by simpa [mi_len] using hln
    simp only [mi_sB] at hs
    split at hs
    · simp only [Option.some.injEq, Prod.mk.injEq] at hs; obtain ⟨rfl, rfl, rfl, rfl⟩ := hs
      exact lv_ineg hx hb hd (kk _ _ _ _ _ I L rm)
    · cases hs
  | ladd =>
    obtain rfl : len = 1 := by simpa [mi_len] using hln
    simp only [mi_sB] at hs
    split at hs
    · simp only [Option.some.injEq, Prod.mk.injEq] at hs; obtain ⟨rfl, rfl, rfl, rfl⟩ := hs
      exact lv_ladd hx hb hd (kk _ _ _ _ _ I L rm)
    · cases hs
  | lsub =>
    obtain rfl : len = 1 := by simpa [mi_len] using hln
    simp only [mi_sB] at hs
    split at hs
    · simp only [Option.some.injEq, Prod.mk.injEq] at hs; obtain ⟨rfl, rfl, rfl, rfl⟩ := hs
      exact lv_lsub hx hb hd (kk _ _ _ _ _ I L rm)
    · cases hs
  | lmul =>
    obtain rfl : len = 1 := by simpa [mi_len] using hln
    simp only [mi_sB] at hs
    split at hs
    · simp only [Option.some.injEq, Prod.mk.injEq] at hs; obtain ⟨rfl, rfl, rfl, rfl⟩ := hs
      exact lv_lmul hx hb hd (kk _ _ _ _ _ I L rm)
    · cases hs
  | land =>
    obtain rfl : len = 1 := by simpa [mi_len] using hln
    simp only [mi_sB] at hs
    split at hs
    · simp only [Option.some.injEq, Prod.mk.injEq] at hs; obtain ⟨rfl, rfl, rfl, rfl⟩ := hs
      exact lv_land hx hb hd (kk _ _ _ _ _ I L rm)
    · cases hs
  | lor =>
    obtain rfl : len = 1 := by simpa [mi_len] using hln
    simp only [mi_sB] at hs
    split at hs
    · simp only [Option.some.injEq, Prod.mk.injEq] at hs; obtain ⟨rfl, rfl, rfl, rfl⟩ := hs
      exact lv_lor hx hb hd (kk _ _ _ _ _ I L rm)
    · cases hs
  | lxor =>
    obtain rfl : len = 1 := by simpa [mi_len] using hln
    simp only [mi_sB] at hs
    split at hs
    · simp only [Option.some.injEq, Prod.mk.injEq] at hs; obtain ⟨rfl, rfl, rfl, rfl⟩ := hs
      exact lv_lxor hx hb hd (kk _ _ _ _ _ I L rm)
    · cases hs
  | ldiv =>
    obtain rfl : len = 1 := by simpa [mi_len] using hln
    simp only [mi_sB] at hs
    split at hs
    · split at hs
      · rename_i hg
        simp only [Option.some.injEq, Prod.mk.injEq] at hs; obtain ⟨rfl, rfl, rfl, rfl⟩ := hs
        exact lv_ldiv hx hb hd hg (kk _ _ _ _ _ I L rm)
      · cases hs
    · cases hs
  | lrem =>
    obtain rfl : len = 1 := by simpa [mi_len] using hln
    simp only [mi_sB] at hs
    split at hs
    · split at hs
      · rename_i hg
        simp only [Option.some.injEq, Prod.mk.injEq] at hs; obtain ⟨rfl, rfl, rfl, rfl⟩ := hs
        exact lv_lrem hx hb hd hg (kk _ _ _ _ _ I L rm)
      · cases hs
    · cases hs
  | lneg =>
    obtain rfl : len = 1 := by simpa [mi_len] using hln
    simp only [mi_sB] at hs
    split at hs
    · simp only [Option.some.injEq, Prod.mk.injEq] at hs; obtain ⟨rfl, rfl, rfl, rfl⟩ := hs
      exact lv_lneg hx hb hd (kk _ _ _ _ _ I L rm)
    · cases hs
  | lshl =>
    obtain rfl : len = 1 := by simpa [mi_len] using hln
    simp only [mi_sB] at hs
    split at hs
    · simp only [Option.some.injEq, Prod.mk.injEq] at hs; obtain ⟨rfl, rfl, rfl, rfl⟩ := hs
      exact lv_lshl hx hb hd rfl (kk _ _ _ _ _ I L rm)
    · cases hs
  | lshr =>
    obtain rfl : len = 1 := by simpa [mi_len] using hln
    simp only [mi_sB] at hs
    split at hs
    · simp only [Option.some.injEq, Prod.mk.injEq] at hs; obtain ⟨rfl, rfl, rfl, rfl⟩ := hs
      exact lv_lshr hx hb hd rfl (kk _ _ _ _ _ I L rm)
    · cases hs
  | lushr =>
    obtain rfl : len = 1 := by simpa [mi_len] using hln
    simp only [mi_sB] at hs
    split at hs
    · simp only [Option.some.injEq, Prod.mk.injEq] at hs; obtain ⟨rfl, rfl, rfl, rfl⟩ := hs
      exact lv_lushr hx hb hd rfl (kk _ _ _ _ _ I L rm)
    · cases hs
  | lcmp =>
    obtain rfl : len = 1 := by simpa [mi_len] using hln
    simp only [mi_sB] at hs
    split at hs
    · simp only [Option.some.injEq, Prod.mk.injEq] at hs; obtain ⟨rfl, rfl, rfl, rfl⟩ := hs
      exact W.lcmp hx hb hd (kk _ _ _ _ _ I L rm)
    · cases hs
  | i2l =>
    obtain rfl : len = 1 := by simpa [mi_len] using hln
    simp only [mi_sB] at hs
    split at hs
    · simp only [Option.some.injEq, Prod.mk.injEq] at hs; obtain ⟨rfl, rfl, rfl, rfl⟩ := hs
      exact lv_i2l hx hb hd rfl (kk _ _ _ _ _ I L rm)
    · cases hs
  | l2i =>
    obtain rfl : len = 1 := by simpa [mi_len] using hln
    simp only [mi_sB] at hs
    split at hs
    · simp only [Option.some.injEq, Prod.mk.injEq] at hs; obtain ⟨rfl, rfl, rfl, rfl⟩ := hs
      exact lv_l2i hx hb hd rfl (kk _ _ _ _ _ I L rm)
    · cases hs
  | i2b =>
    obtain rfl : len = 1 := by simpa [mi_len] using hln
    simp only [mi_sB] at hs
    split at hs
    · simp only [Option.some.injEq, Prod.mk.injEq] at hs; obtain ⟨rfl, rfl, rfl, rfl⟩ := hs
      exact lv_i2b hx hb hd rfl (kk _ _ _ _ _ I L rm)
    · cases hs
  | i2s =>
    obtain rfl : len = 1 := by simpa [mi_len] using hln
    simp only [mi_sB] at hs
    split at hs
    · simp only [Option.some.injEq, Prod.mk.injEq] at hs; obtain ⟨rfl, rfl, rfl, rfl⟩ := hs
      exact lv_i2s hx hb hd rfl (kk _ _ _ _ _ I L rm)
    · cases hs
  | i2c =>
    obtain rfl : len = 1 := by simpa [mi_len] using hln
    simp only [mi_sB] at hs
    split at hs
    · simp only [Option.some.injEq, Prod.mk.injEq] at hs; obtain ⟨rfl, rfl, rfl, rfl⟩ := hs
      exact lv_i2c hx hb hd rfl (kk _ _ _ _ _ I L rm)
    · cases hs
  | _ => exact absurd hs (by simp [mi_sB])
end
