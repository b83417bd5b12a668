def mi_sA (y : Nat) (i : Instr) (pc : Nat) (ls : mi_L) (st : List Value) (h : mi_H) : Option (Nat × mi_L × List Value × mi_H) := match i with
  | .iconst k => some (pc + 1, ls, .int (Int32.ofInt k) :: st, h)
  | .bipush k => some (pc + 2, ls, .int (Int8.ofInt k).toInt32 :: st, h)
  | .sipush k => some (pc + 3, ls, .int (Int16.ofInt k).toInt32 :: st, h)
  | .lconst k => some (pc + 1, ls, .long (Int64.ofNat (k : Nat)) :: st, h)
  | .aconst_null => some (pc + 1, ls, .null :: st, h)
  | .iload_n k => match mi_g ls (k : Nat) with
    | some (.int x) => some (pc + 1, ls, .int x :: st, h)
    | _ => none
  | .iload k => match mi_g ls k with
    | some (.int x) => some (pc + 2, ls, .int x :: st, h)
    | _ => none
  | .lload_n k => match mi_g ls (k : Nat) with
    | some (.long x) => some (pc + 1, ls, .long x :: st, h)
    | _ => none
  | .lload k => match mi_g ls k with
    | some (.long x) => some (pc + 2, ls, .long x :: st, h)
    | _ => none
  | .aload_n k => match mi_g ls (k : Nat) with
    | some (.ref x) => some (pc + 1, ls, .ref x :: st, h)
    | some .null => some (pc + 1, ls, .null :: st, h)
    | _ => none
  | .aload k => match mi_g ls k with
    | some (.ref x) => some (pc + 2, ls, .ref x :: st, h)
    | some .null => some (pc + 2, ls, .null :: st, h)
    | _ => none
  | .istore_n k => match st with
    | .int x :: r => if (k : Nat) < ls.length then some (pc + 1, mi_s1 ls (k : Nat) (.int x), r, h) else none
    | _ => none
  | .istore k => match st with
    | .int x :: r => if k < ls.length then some (pc + 2, mi_s1 ls k (.int x), r, h) else none
    | _ => none
  | .lstore_n k => match st with
    | .long x :: r => if (k : Nat) + 1 < ls.length then some (pc + 1, mi_s2 ls (k : Nat) (.long x), r, h) else none
    | _ => none
  | .lstore k => match st with
    | .long x :: r => if k + 1 < ls.length then some (pc + 2, mi_s2 ls k (.long x), r, h) else none
    | _ => none
  | .astore_n k => match st with
    | .ref x :: r => if (k : Nat) < ls.length then some (pc + 1, mi_s1 ls (k : Nat) (.ref x), r, h) else none
    | .null :: r => if (k : Nat) < ls.length then some (pc + 1, mi_s1 ls (k : Nat) (.null), r, h) else none
    | _ => none
  | .astore k => match st with
    | .ref x :: r => if k < ls.length then some (pc + 2, mi_s1 ls k (.ref x), r, h) else none
    | .null :: r => if k < ls.length then some (pc + 2, mi_s1 ls k (.null), r, h) else none
    | _ => none
  | .iinc i k => match mi_g ls i with
    | some (.int x) => some (pc + 3, mi_s1 ls i (.int (x + Int32.ofInt k)), st, h)
    | _ => none
  | _ => none
section
variable {p : Program} {l : Launch} {e : Env} {R : Room} {s : State} {m : MethodId} {args : Array Value} {below : List Frame} {meth : Method} {c : Code} {H : Heap} {locs : List Loc} {cells slots : Nat} {Q : State → Prop}
variable {B d nL : Nat} {ad : Nat → Nat} {D : va_G} {cA : Nat → ClassId} {cc : ByteArray}
set_option maxHeartbeats 4000000 in
theorem mi_sA_ok {y : Nat} {i : Instr} {pc len pc' : Nat} {ls ls' : mi_L} {st st' : List Value} {h h' : mi_H} {lsR : Array Slot} (K : mi_Kx y cc p s m meth c nL) (hs : mi_sA y i pc ls st h = some (pc', ls', st', h')) (hd : decode cc pc = .ok (i, len)) (hln : mi_len i len = true) (L : mi_LR ad nL ls lsR) (I : mi_I B ad D cA h s H locs cells) (rm : mi_rm d h R cells slots)
    (kk : ∀ (lsR' : Array Slot) (H' : Heap) (locs' : List Loc) (cells' slots' : Nat), mi_I B ad D cA h' s H' locs' cells' → mi_LR ad nL ls' lsR' → mi_rm d h' R cells' slots' → W p l e R s m args below meth c H' locs' cells' slots' Q (F0 m pc' lsR' (st'.map (mi_v ad)))) : W p l e R s m args below meth c H locs cells slots Q (F0 m pc lsR (st.map (mi_v ad))) := by
  have hx := K.1
  have hb := K.2.1
  cases i with
  | iconst k =>
    obtain rfl : len = 1 := by simpa [mi_len] using hln
    simp only [mi_sA] at hs; simp only [Option.some.injEq, Prod.mk.injEq] at hs; obtain ⟨rfl, rfl, rfl, rfl⟩ := hs
    exact lv_iconst hx hb hd rfl (kk _ _ _ _ _ I L rm)
  | bipush k =>
    obtain rfl : len = 2 := by simpa [mi_len] using hln
    simp only [mi_sA] at hs; simp only [Option.some.injEq, Prod.mk.injEq] at hs; obtain ⟨rfl, rfl, rfl, rfl⟩ := hs
    exact lv_bipush hx hb hd rfl (kk _ _ _ _ _ I L rm)
  | sipush k =>
    obtain rfl : len = 3 := by simpa [mi_len] using hln
    simp only [mi_sA] at hs; simp only [Option.some.injEq, Prod.mk.injEq] at hs; obtain ⟨rfl, rfl, rfl, rfl⟩ := hs
    exact lv_sipush hx hb hd rfl (kk _ _ _ _ _ I L rm)
  | lconst k =>
    obtain rfl : len = 1 := by simpa [mi_len] using hln
    simp only [mi_sA] at hs; simp only [Option.some.injEq, Prod.mk.injEq] at hs; obtain ⟨rfl, rfl, rfl, rfl⟩ := hs
    exact lv_lconst hx hb hd rfl (kk _ _ _ _ _ I L rm)
  | aconst_null =>
    obtain rfl : len = 1 := by simpa [mi_len] using hln
    simp only [mi_sA] at hs; simp only [Option.some.injEq, Prod.mk.injEq] at hs; obtain ⟨rfl, rfl, rfl, rfl⟩ := hs
    exact lv_null hx hb hd (kk _ _ _ _ _ I L rm)
  | iload_n k =>
    obtain rfl : len = 1 := by simpa [mi_len] using hln
    simp only [mi_sA] at hs
    split at hs
    · rename_i x hg
      simp only [Option.some.injEq, Prod.mk.injEq] at hs; obtain ⟨rfl, rfl, rfl, rfl⟩ := hs
      exact lv_iload_n hx hb hd rfl (L.at hg) (kk _ _ _ _ _ I L rm)
    · cases hs
  | iload k =>
    obtain rfl : len = 2 := by simpa [mi_len] using hln
    simp only [mi_sA] at hs
    split at hs
    · rename_i x hg
      simp only [Option.some.injEq, Prod.mk.injEq] at hs; obtain ⟨rfl, rfl, rfl, rfl⟩ := hs
      exact lv_iload hx hb hd (L.at hg) (kk _ _ _ _ _ I L rm)
    · cases hs
  | lload_n k =>
    obtain rfl : len = 1 := by simpa [mi_len] using hln
    simp only [mi_sA] at hs
    split at hs
    · rename_i x hg
      simp only [Option.some.injEq, Prod.mk.injEq] at hs; obtain ⟨rfl, rfl, rfl, rfl⟩ := hs
      exact lv_lload_n hx hb hd rfl (L.at hg) (kk _ _ _ _ _ I L rm)
    · cases hs
  | lload k =>
    obtain rfl : len = 2 := by simpa [mi_len] using hln
    simp only [mi_sA] at hs
    split at hs
    · rename_i x hg
      simp only [Option.some.injEq, Prod.mk.injEq] at hs; obtain ⟨rfl, rfl, rfl, rfl⟩ := hs
      exact lv_lload hx hb hd (L.at hg) (kk _ _ _ _ _ I L rm)
    · cases hs
  | aload_n k =>
    obtain rfl : len = 1 := by simpa [mi_len] using hln
    simp only [mi_sA] at hs
    split at hs
    · rename_i x hg
      simp only [Option.some.injEq, Prod.mk.injEq] at hs; obtain ⟨rfl, rfl, rfl, rfl⟩ := hs
      exact lv_aload_n hx hb hd rfl (L.at hg) (kk _ _ _ _ _ I L rm)
    · rename_i hg
      simp only [Option.some.injEq, Prod.mk.injEq] at hs; obtain ⟨rfl, rfl, rfl, rfl⟩ := hs
      exact lv_aload_nN hx hb hd rfl (L.at hg) (kk _ _ _ _ _ I L rm)
    · cases hs
  | aload k =>
    obtain rfl : len = 2 := by simpa [mi_len] using hln
    simp only [mi_sA] at hs
    split at hs
    · rename_i x hg
      simp only [Option.some.injEq, Prod.mk.injEq] at hs; obtain ⟨rfl, rfl, rfl, rfl⟩ := hs
      exact lv_aload hx hb hd (L.at hg) (kk _ _ _ _ _ I L rm)
    · rename_i hg
      simp only [Option.some.injEq, Prod.mk.injEq] at hs; obtain ⟨rfl, rfl, rfl, rfl⟩ := hs
      exact lv_aloadN hx hb hd (L.at hg) (kk _ _ _ _ _ I L rm)
    · cases hs
  | istore_n k =>
    obtain rfl : len = 1 := by simpa [mi_len] using hln
    simp only [mi_sA] at hs
    split at hs
    · rename_i x r
      split at hs
      · rename_i hg
        simp only [Option.some.injEq, Prod.mk.injEq] at hs; obtain ⟨rfl, rfl, rfl, rfl⟩ := hs
        exact lv_istore_n hx hb hd rfl L.has (L.1 ▸ hg) rfl (fun ls' hl => kk _ _ _ _ _ I (mi_LR.st1 (v := .int x) L.1 hl) rm)
      · cases hs
    · cases hs
  | istore k =>
    obtain rfl : len = 2 := by simpa [mi_len] using hln
    simp only [mi_sA] at hs
    split at hs
    · rename_i x r
      split at hs
      · rename_i hg
        simp only [Option.some.injEq, Prod.mk.injEq] at hs; obtain ⟨rfl, rfl, rfl, rfl⟩ := hs
        exact lv_istore hx hb hd L.has (L.1 ▸ hg) rfl (fun ls' hl => kk _ _ _ _ _ I (mi_LR.st1 (v := .int x) L.1 hl) rm)
      · cases hs
    · cases hs
  | lstore_n k =>
    obtain rfl : len = 1 := by simpa [mi_len] using hln
    simp only [mi_sA] at hs
    split at hs
    · rename_i x r
      split at hs
      · rename_i hg
        simp only [Option.some.injEq, Prod.mk.injEq] at hs; obtain ⟨rfl, rfl, rfl, rfl⟩ := hs
        exact lv_lstore_n hx hb hd rfl L.has (L.1 ▸ hg) rfl (fun ls' hl => kk _ _ _ _ _ I (mi_LR.st2 (v := .long x) L.1 hl) rm)
      · cases hs
    · cases hs
  | lstore k =>
    obtain rfl : len = 2 := by simpa [mi_len] using hln
    simp only [mi_sA] at hs
    split at hs
    · rename_i x r
      split at hs
      · rename_i hg
        simp only [Option.some.injEq, Prod.mk.injEq] at hs; obtain ⟨rfl, rfl, rfl, rfl⟩ := hs
        exact lv_lstore hx hb hd L.has (L.1 ▸ hg) rfl (fun ls' hl => kk _ _ _ _ _ I (mi_LR.st2 (v := .long x) L.1 hl) rm)
      · cases hs
    · cases hs
  | astore_n k =>
    obtain rfl : len = 1 := by simpa [mi_len] using hln
    simp only [mi_sA] at hs
    split at hs
    · rename_i x r
      split at hs
      · rename_i hg
        simp only [Option.some.injEq, Prod.mk.injEq] at hs; obtain ⟨rfl, rfl, rfl, rfl⟩ := hs
        exact lv_astore_n hx hb hd rfl L.has (L.1 ▸ hg) rfl (fun ls' hl => kk _ _ _ _ _ I (mi_LR.st1 (v := .ref x) L.1 hl) rm)
      · cases hs
    · rename_i r
      split at hs
      · rename_i hg
        simp only [Option.some.injEq, Prod.mk.injEq] at hs; obtain ⟨rfl, rfl, rfl, rfl⟩ := hs
        exact lv_astore_nN hx hb hd rfl L.has (L.1 ▸ hg) rfl (fun ls' hl => kk _ _ _ _ _ I (mi_LR.st1 (v := .null) L.1 hl) rm)
      · cases hs
    · cases hs
  | astore k =>
    obtain rfl : len = 2 := by simpa [mi_len] using hln
    simp only [mi_sA] at hs
    split at hs
    · rename_i x r
      split at hs
      · rename_i hg
        simp only [Option.some.injEq, Prod.mk.injEq] at hs; obtain ⟨rfl, rfl, rfl, rfl⟩ := hs
        exact lv_astore hx hb hd L.has (L.1 ▸ hg) rfl (fun ls' hl => kk _ _ _ _ _ I (mi_LR.st1 (v := .ref x) L.1 hl) rm)
      · cases hs
    · rename_i r
      split at hs
      · rename_i hg
        simp only [Option.some.injEq, Prod.mk.injEq] at hs; obtain ⟨rfl, rfl, rfl, rfl⟩ := hs
        exact lv_astoreN hx hb hd L.has (L.1 ▸ hg) rfl (fun ls' hl => kk _ _ _ _ _ I (mi_LR.st1 (v := .null) L.1 hl) rm)
      · cases hs
    · cases hs
  | iinc i k =>
    obtain rfl : len = 3 := by simpa [mi_len] using hln
    simp only [mi_sA] at hs
    split at hs
    · rename_i x hg
      simp only [Option.some.injEq, Prod.mk.injEq] at hs; obtain ⟨rfl, rfl, rfl, rfl⟩ := hs
      obtain ⟨kx, hkx⟩ := List.getElem?_of_mem (mi_pr_mem (ad := ad) hg)
      exact lv_iinc hx hb hd L.has hkx rfl (L.1 ▸ mi_g_lt hg) rfl (fun ls' hl => kk _ _ _ _ _ I (mi_LR.st1 (v := .int (x + Int32.ofInt k)) L.1 hl) rm)
    · cases hs
  | _ => exact absurd hs (by simp [mi_sA])
end
