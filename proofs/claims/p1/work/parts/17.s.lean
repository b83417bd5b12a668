/-! one instruction, of all families -/
def mi_s (y : Nat) (i : Instr) (pc : Nat) (ls : mi_L) (st : List Value) (h : mi_H) : Option (Nat × mi_L × List Value × mi_H) := match mi_sA y i pc ls st h with
  | some r => some r
  | none => match mi_sD y i pc ls st h with
    | some r => some r
    | none => match mi_sB y i pc ls st h with
      | some r => some r
      | none => match mi_sC y i pc ls st h with
        | some r => some r
        | none => mi_sE y i pc ls st h
section
variable {p : Program} {l : Launch} {e : Env} {R : Room} {s : State} {m : MethodId} {args : Array Value} {below : List Frame} {meth : Method} {c : Code} {H : Heap} {locs : List Loc} {cells slots : Nat} {Q : State → Prop}
variable {B d nL : Nat} {ad : Nat → Nat} {D : va_G} {cA : Nat → ClassId} {cc : ByteArray}
theorem mi_s_ok {y : Nat} {i : Instr} {pc len pc' : Nat} {ls ls' : mi_L} {st st' : List Value} {h h' : mi_H} {lsR : Array Slot} (K : mi_Kx y cc p s m meth c nL) (hs : mi_s y i pc ls st h = some (pc', ls', st', h')) (hd : decode cc pc = .ok (i, len)) (hln : mi_len i len = true) (L : mi_LR ad nL ls lsR) (I : mi_I B ad D cA h s H locs cells) (rm : mi_rm d h R cells slots)
    (kk : ∀ (lsR' : Array Slot) (H' : Heap) (locs' : List Loc) (cells' slots' : Nat), mi_I B ad D cA h' s H' locs' cells' → mi_LR ad nL ls' lsR' → mi_rm d h' R cells' slots' → W p l e R s m args below meth c H' locs' cells' slots' Q (F0 m pc' lsR' (st'.map (mi_v ad)))) : W p l e R s m args below meth c H locs cells slots Q (F0 m pc lsR (st.map (mi_v ad))) := by
  unfold mi_s at hs
  split at hs
  · rename_i r hr
    cases hs
    exact mi_sA_ok K hr hd hln L I rm kk
  · split at hs
    · rename_i r hr
      cases hs
      exact mi_sD_ok K hr hd hln L I rm kk
    · split at hs
      · rename_i r hr
        cases hs
        exact mi_sB_ok K hr hd hln L I rm kk
      · split at hs
        · rename_i r hr
          cases hs
          exact mi_sC_ok K hr hd hln L I rm kk
        · exact mi_sE_ok K hs hd hln L I rm kk
end
