def mi_sC (y : Nat) (i : Instr) (pc : Nat) (ls : mi_L) (st : List Value) (h : mi_H) : Option (Nat × mi_L × List Value × mi_H) := match i with
  | .dup => match st with
    | a :: r => if a.category = 1 then some (pc + 1, ls, a :: a :: r, h) else none
    | _ => none
  | .pop => match st with
    | a :: r => if a.category = 1 then some (pc + 1, ls, r, h) else none
    | _ => none
  | .dup_x1 => match st with
    | a :: b :: r => if a.category = 1 ∧ b.category = 1 then some (pc + 1, ls, a :: b :: a :: r, h) else none
    | _ => none
  | .dup_x2 => match st with
    | a :: b :: d :: r => if a.category = 1 ∧ b.category = 1 ∧ d.category = 1 then some (pc + 1, ls, a :: b :: d :: a :: r, h) else none
    | _ => none
  | .dup2 => match st with
    | .long a :: r => some (pc + 1, ls, .long a :: .long a :: r, h)
    | a :: b :: r => if a.category = 1 ∧ b.category = 1 then some (pc + 1, ls, a :: b :: a :: b :: r, h) else none
    | _ => none
  | .pop2 => match st with
    | .long a :: r => some (pc + 1, ls, r, h)
    | a :: b :: r => if a.category = 1 ∧ b.category = 1 then some (pc + 1, ls, r, h) else none
    | _ => none
  | .dup2_x1 => match st with
    | .long a :: b :: r => if b.category = 1 then some (pc + 1, ls, .long a :: b :: .long a :: r, h) else none
    | _ => none
  | .dup2_x2 => match st with
    | .long a :: b :: d :: r => if b.category = 1 ∧ d.category = 1 then some (pc + 1, ls, .long a :: b :: d :: .long a :: r, h) else none
    | _ => none
  | .ifCond cd off => match cd, st with
    | .eq, .int a :: r => (mi_j pc off).bind (fun t => some (if a = 0 then t else pc + 3, ls, r, h))
    | .ne, .int a :: r => (mi_j pc off).bind (fun t => some (if ¬ a = 0 then t else pc + 3, ls, r, h))
    | .lt, .int a :: r => (mi_j pc off).bind (fun t => some (if a < 0 then t else pc + 3, ls, r, h))
    | .ge, .int a :: r => (mi_j pc off).bind (fun t => some (if 0 ≤ a then t else pc + 3, ls, r, h))
    | .gt, .int a :: r => (mi_j pc off).bind (fun t => some (if 0 < a then t else pc + 3, ls, r, h))
    | .le, .int a :: r => (mi_j pc off).bind (fun t => some (if a ≤ 0 then t else pc + 3, ls, r, h))
    | _, _ => none
  | .if_icmp cd off => match cd, st with
    | .eq, .int b :: .int a :: r => (mi_j pc off).bind (fun t => some (if a = b then t else pc + 3, ls, r, h))
    | .ne, .int b :: .int a :: r => (mi_j pc off).bind (fun t => some (if ¬ a = b then t else pc + 3, ls, r, h))
    | .lt, .int b :: .int a :: r => (mi_j pc off).bind (fun t => some (if a < b then t else pc + 3, ls, r, h))
    | .ge, .int b :: .int a :: r => (mi_j pc off).bind (fun t => some (if b ≤ a then t else pc + 3, ls, r, h))
    | .gt, .int b :: .int a :: r => (mi_j pc off).bind (fun t => some (if b < a then t else pc + 3, ls, r, h))
    | .le, .int b :: .int a :: r => (mi_j pc off).bind (fun t => some (if a ≤ b then t else pc + 3, ls, r, h))
    | _, _ => none
  | .goto off => (mi_j pc off).bind (fun t => some (t, ls, st, h))
  | .ifnull off => match st with
    | .ref _ :: r => some (pc + 3, ls, r, h)
    | .null :: r => (mi_j pc off).bind (fun t => some (t, ls, r, h))
    | _ => none
  | .ifnonnull off => match st with
    | .ref _ :: r => (mi_j pc off).bind (fun t => some (t, ls, r, h))
    | .null :: r => some (pc + 3, ls, r, h)
    | _ => none
  | .tableswitch df lo hi offs => match st with
    | .int a :: r => if a.toInt < lo ∨ hi < a.toInt then (mi_j pc df).bind (fun t => some (t, ls, r, h)) else (offs[(a.toInt - lo).toNat]?).bind (fun off => (mi_j pc off).bind (fun t => some (t, ls, r, h)))
    | _ => none
  | .lookupswitch df ps => match st with
    | .int a :: r => if (ps.toList.zip (ps.toList.drop 1)).all (fun (a, next) => a.1 < next.1) = true then (mi_j pc (Op.lookupswitch.offset ps.toList df a.toInt)).bind (fun t => some (t, ls, r, h)) else none
    | _ => none
  | _ => none
section
variable {p : Program} {l : Launch} {e : Env} {R : Room} {s : State} {m : MethodId} {args : Array Value} {below : List Frame} {meth : Method} {c : Code} {H : Heap} {locs : List Loc} {cells slots : Nat} {Q : State → Prop}
variable {B d nL : Nat} {ad : Nat → Nat} {D : va_G} {cA : Nat → ClassId} {cc : ByteArray}
set_option maxHeartbeats 4000000 in
theorem mi_sC_ok {y : Nat} {i : Instr} {pc len pc' : Nat} {ls ls' : mi_L} {st st' : List Value} {h h' : mi_H} {lsR : Array Slot} (K : mi_Kx y cc p s m meth c nL) (hs : mi_sC y i pc ls st h = some (pc', ls', st', h')) (hd : decode cc pc = .ok (i, len)) (hln : mi_len i len = true) (L : mi_LR ad nL ls lsR) (I : mi_I B ad D cA h s H locs cells) (rm : mi_rm d h R cells slots)
    (kk : ∀ (lsR' : Array Slot) (H' : Heap) (locs' : List Loc) (cells' slots' : Nat), mi_I B ad D cA h' s H' locs' cells' → mi_LR ad nL ls' lsR' → mi_rm d h' R cells' slots' → W p l e R s m args below meth c H' locs' cells' slots' Q (F0 m pc' lsR' (st'.map (mi_v ad)))) : W p l e R s m args below meth c H locs cells slots Q (F0 m pc lsR (st.map (mi_v ad))) := by
  have hx := K.1
  have hb := K.2.1
  cases i with
  | dup =>
    obtain rfl : len = 1 := by simpa [mi_len] using hln
    simp only [mi_sC] at hs
    split at hs
    · split at hs
      · rename_i hg
        simp only [Option.some.injEq, Prod.mk.injEq] at hs; obtain ⟨rfl, rfl, rfl, rfl⟩ := hs
        exact lv_dup hx hb hd ((mi_v_cat ad _).trans hg) (kk _ _ _ _ _ I L rm)
      · cases hs
    · cases hs
  | pop =>
    obtain rfl : len = 1 := by simpa [mi_len] using hln
    simp only [mi_sC] at hs
    split at hs
    · split at hs
      · rename_i hg
        simp only [Option.some.injEq, Prod.mk.injEq] at hs; obtain ⟨rfl, rfl, rfl, rfl⟩ := hs
        exact lv_pop hx hb hd ((mi_v_cat ad _).trans hg) (kk _ _ _ _ _ I L rm)
      · cases hs
    · cases hs
  | dup_x1 =>
    obtain rfl : len = 1 := by simpa [mi_len] using hln
    simp only [mi_sC] at hs
    split at hs
    · split at hs
      · rename_i hg
        simp only [Option.some.injEq, Prod.mk.injEq] at hs; obtain ⟨rfl, rfl, rfl, rfl⟩ := hs
        exact lv_dup_x1 hx hb hd ((mi_v_cat ad _).trans hg.1) ((mi_v_cat ad _).trans hg.2) (kk _ _ _ _ _ I L rm)
      · cases hs
    · cases hs
  | dup_x2 =>
    obtain rfl : len = 1 := by simpa [mi_len] using hln
    simp only [mi_sC] at hs
    split at hs
    · split at hs
      · rename_i hg
        simp only [Option.some.injEq, Prod.mk.injEq] at hs; obtain ⟨rfl, rfl, rfl, rfl⟩ := hs
        exact lv_dup_x2 hx hb hd ((mi_v_cat ad _).trans hg.1) ((mi_v_cat ad _).trans hg.2.1) ((mi_v_cat ad _).trans hg.2.2) (kk _ _ _ _ _ I L rm)
      · cases hs
    · cases hs
  | dup2 =>
    obtain rfl : len = 1 := by simpa [mi_len] using hln
    simp only [mi_sC] at hs
    split at hs
    · simp only [Option.some.injEq, Prod.mk.injEq] at hs; obtain ⟨rfl, rfl, rfl, rfl⟩ := hs
      exact lv_dup2_2 hx hb hd rfl (kk _ _ _ _ _ I L rm)
    · split at hs
      · rename_i hg
        simp only [Option.some.injEq, Prod.mk.injEq] at hs; obtain ⟨rfl, rfl, rfl, rfl⟩ := hs
        exact lv_dup2_11 hx hb hd ((mi_v_cat ad _).trans hg.1) ((mi_v_cat ad _).trans hg.2) (kk _ _ _ _ _ I L rm)
      · cases hs
    · cases hs
  | pop2 =>
    obtain rfl : len = 1 := by simpa [mi_len] using hln
    simp only [mi_sC] at hs
    split at hs
    · simp only [Option.some.injEq, Prod.mk.injEq] at hs; obtain ⟨rfl, rfl, rfl, rfl⟩ := hs
      exact lv_pop2_2 hx hb hd rfl (kk _ _ _ _ _ I L rm)
    · split at hs
      · rename_i hg
        simp only [Option.some.injEq, Prod.mk.injEq] at hs; obtain ⟨rfl, rfl, rfl, rfl⟩ := hs
        exact lv_pop2_11 hx hb hd ((mi_v_cat ad _).trans hg.1) ((mi_v_cat ad _).trans hg.2) (kk _ _ _ _ _ I L rm)
      · cases hs
    · cases hs
  | dup2_x1 =>
    obtain rfl : len = 1 := by simpa [mi_len] using hln
    simp only [mi_sC] at hs
    split at hs
    · split at hs
      · rename_i hg
        simp only [Option.some.injEq, Prod.mk.injEq] at hs; obtain ⟨rfl, rfl, rfl, rfl⟩ := hs
        exact lv_dup2_x1_2 hx hb hd rfl ((mi_v_cat ad _).trans hg) (kk _ _ _ _ _ I L rm)
      · cases hs
    · cases hs
  | dup2_x2 =>
    obtain rfl : len = 1 := by simpa [mi_len] using hln
    simp only [mi_sC] at hs
    split at hs
    · split at hs
      · rename_i hg
        simp only [Option.some.injEq, Prod.mk.injEq] at hs; obtain ⟨rfl, rfl, rfl, rfl⟩ := hs
        exact lv_dup2_x2_2 hx hb hd rfl ((mi_v_cat ad _).trans hg.1) ((mi_v_cat ad _).trans hg.2) (kk _ _ _ _ _ I L rm)
      · cases hs
    · cases hs
  | ifCond cd off =>
    obtain rfl : len = 3 := by simpa [mi_len] using hln
    simp only [mi_sC] at hs
    split at hs
    · obtain ⟨t, ht, hs⟩ := Option.bind_eq_some_iff.mp hs
      simp only [Option.some.injEq, Prod.mk.injEq] at hs; obtain ⟨rfl, rfl, rfl, rfl⟩ := hs
      exact lv_if_eq hx hb hd (mi_j_ok ht) (fun q => by have z := kk _ _ _ _ _ I L rm; rw [if_pos q] at z; exact z) (fun q => by have z := kk _ _ _ _ _ I L rm; rw [if_neg q] at z; exact z)
    · obtain ⟨t, ht, hs⟩ := Option.bind_eq_some_iff.mp hs
      simp only [Option.some.injEq, Prod.mk.injEq] at hs; obtain ⟨rfl, rfl, rfl, rfl⟩ := hs
      exact lv_if_ne hx hb hd (mi_j_ok ht) (fun q => by have z := kk _ _ _ _ _ I L rm; rw [if_pos q] at z; exact z) (fun q => by have z := kk _ _ _ _ _ I L rm; rw [if_neg (fun w => w q)] at z; exact z)
    · obtain ⟨t, ht, hs⟩ := Option.bind_eq_some_iff.mp hs
      simp only [Option.some.injEq, Prod.mk.injEq] at hs; obtain ⟨rfl, rfl, rfl, rfl⟩ := hs
      exact lv_if_lt hx hb hd (mi_j_ok ht) (fun q => by have z := kk _ _ _ _ _ I L rm; rw [if_pos q] at z; exact z) (fun q => by have z := kk _ _ _ _ _ I L rm; rw [if_neg q] at z; exact z)
    · obtain ⟨t, ht, hs⟩ := Option.bind_eq_some_iff.mp hs
      simp only [Option.some.injEq, Prod.mk.injEq] at hs; obtain ⟨rfl, rfl, rfl, rfl⟩ := hs
      exact lv_if_ge hx hb hd (mi_j_ok ht) (fun q => by have z := kk _ _ _ _ _ I L rm; rw [if_pos q] at z; exact z) (fun q => by have z := kk _ _ _ _ _ I L rm; rw [if_neg q] at z; exact z)
    · obtain ⟨t, ht, hs⟩ := Option.bind_eq_some_iff.mp hs
      simp only [Option.some.injEq, Prod.mk.injEq] at hs; obtain ⟨rfl, rfl, rfl, rfl⟩ := hs
      exact lv_if_gt hx hb hd (mi_j_ok ht) (fun q => by have z := kk _ _ _ _ _ I L rm; rw [if_pos q] at z; exact z) (fun q => by have z := kk _ _ _ _ _ I L rm; rw [if_neg q] at z; exact z)
    · obtain ⟨t, ht, hs⟩ := Option.bind_eq_some_iff.mp hs
      simp only [Option.some.injEq, Prod.mk.injEq] at hs; obtain ⟨rfl, rfl, rfl, rfl⟩ := hs
      exact lv_if_le hx hb hd (mi_j_ok ht) (fun q => by have z := kk _ _ _ _ _ I L rm; rw [if_pos q] at z; exact z) (fun q => by have z := kk _ _ _ _ _ I L rm; rw [if_neg q] at z; exact z)
    · cases hs
  | if_icmp cd off =>
    obtain rfl : len = 3 := by simpa [mi_len] using hln
    simp only [mi_sC] at hs
    split at hs
    · obtain ⟨t, ht, hs⟩ := Option.bind_eq_some_iff.mp hs
      simp only [Option.some.injEq, Prod.mk.injEq] at hs; obtain ⟨rfl, rfl, rfl, rfl⟩ := hs
      exact lv_icmp_eq hx hb hd (mi_j_ok ht) (fun q => by have z := kk _ _ _ _ _ I L rm; rw [if_pos q] at z; exact z) (fun q => by have z := kk _ _ _ _ _ I L rm; rw [if_neg q] at z; exact z)
    · obtain ⟨t, ht, hs⟩ := Option.bind_eq_some_iff.mp hs
      simp only [Option.some.injEq, Prod.mk.injEq] at hs; obtain ⟨rfl, rfl, rfl, rfl⟩ := hs
      exact lv_icmp_ne hx hb hd (mi_j_ok ht) (fun q => by have z := kk _ _ _ _ _ I L rm; rw [if_pos q] at z; exact z) (fun q => by have z := kk _ _ _ _ _ I L rm; rw [if_neg (fun w => w q)] at z; exact z)
    · obtain ⟨t, ht, hs⟩ := Option.bind_eq_some_iff.mp hs
      simp only [Option.some.injEq, Prod.mk.injEq] at hs; obtain ⟨rfl, rfl, rfl, rfl⟩ := hs
      exact lv_icmp_lt hx hb hd (mi_j_ok ht) (fun q => by have z := kk _ _ _ _ _ I L rm; rw [if_pos q] at z; exact z) (fun q => by have z := kk _ _ _ _ _ I L rm; rw [if_neg q] at z; exact z)
    · obtain ⟨t, ht, hs⟩ := Option.bind_eq_some_iff.mp hs
      simp only [Option.some.injEq, Prod.mk.injEq] at hs; obtain ⟨rfl, rfl, rfl, rfl⟩ := hs
      exact lv_icmp_ge hx hb hd (mi_j_ok ht) (fun q => by have z := kk _ _ _ _ _ I L rm; rw [if_pos q] at z; exact z) (fun q => by have z := kk _ _ _ _ _ I L rm; rw [if_neg q] at z; exact z)
    · obtain ⟨t, ht, hs⟩ := Option.bind_eq_some_iff.mp hs
      simp only [Option.some.injEq, Prod.mk.injEq] at hs; obtain ⟨rfl, rfl, rfl, rfl⟩ := hs
      exact lv_icmp_gt hx hb hd (mi_j_ok ht) (fun q => by have z := kk _ _ _ _ _ I L rm; rw [if_pos q] at z; exact z) (fun q => by have z := kk _ _ _ _ _ I L rm; rw [if_neg q] at z; exact z)
    · obtain ⟨t, ht, hs⟩ := Option.bind_eq_some_iff.mp hs
      simp only [Option.some.injEq, Prod.mk.injEq] at hs; obtain ⟨rfl, rfl, rfl, rfl⟩ := hs
      exact lv_icmp_le hx hb hd (mi_j_ok ht) (fun q => by have z := kk _ _ _ _ _ I L rm; rw [if_pos q] at z; exact z) (fun q => by have z := kk _ _ _ _ _ I L rm; rw [if_neg q] at z; exact z)
    · cases hs
  | goto off =>
    obtain rfl : len = 3 := by simpa [mi_len] using hln
    simp only [mi_sC] at hs
    obtain ⟨t, ht, hs⟩ := Option.bind_eq_some_iff.mp hs
    simp only [Option.some.injEq, Prod.mk.injEq] at hs; obtain ⟨rfl, rfl, rfl, rfl⟩ := hs
    exact lv_goto hx hb hd (mi_j_ok ht) (kk _ _ _ _ _ I L rm)
  | ifnull off =>
    obtain rfl : len = 3 := by simpa [mi_len] using hln
    simp only [mi_sC] at hs
    split at hs
    · simp only [Option.some.injEq, Prod.mk.injEq] at hs; obtain ⟨rfl, rfl, rfl, rfl⟩ := hs
      exact lv_ifnull hx hb hd (kk _ _ _ _ _ I L rm)
    · obtain ⟨t, ht, hs⟩ := Option.bind_eq_some_iff.mp hs
      simp only [Option.some.injEq, Prod.mk.injEq] at hs; obtain ⟨rfl, rfl, rfl, rfl⟩ := hs
      exact lv_ifnullN hx hb hd (mi_j_ok ht) (kk _ _ _ _ _ I L rm)
    · cases hs
  | ifnonnull off =>
    obtain rfl : len = 3 := by simpa [mi_len] using hln
    simp only [mi_sC] at hs
    split at hs
    · obtain ⟨t, ht, hs⟩ := Option.bind_eq_some_iff.mp hs
      simp only [Option.some.injEq, Prod.mk.injEq] at hs; obtain ⟨rfl, rfl, rfl, rfl⟩ := hs
      exact lv_ifnonnull hx hb hd (mi_j_ok ht) (kk _ _ _ _ _ I L rm)
    · simp only [Option.some.injEq, Prod.mk.injEq] at hs; obtain ⟨rfl, rfl, rfl, rfl⟩ := hs
      exact lv_ifnonnullN hx hb hd (kk _ _ _ _ _ I L rm)
    · cases hs
  | tableswitch df lo hi offs =>
    simp only [mi_sC] at hs
    split at hs
    · split at hs
      · rename_i hg
        obtain ⟨t, ht, hs⟩ := Option.bind_eq_some_iff.mp hs
        simp only [Option.some.injEq, Prod.mk.injEq] at hs; obtain ⟨rfl, rfl, rfl, rfl⟩ := hs
        exact lv_tableOut hx hb hd hg (mi_j_ok ht) (kk _ _ _ _ _ I L rm)
      · rename_i hg
        obtain ⟨off, ho, hs⟩ := Option.bind_eq_some_iff.mp hs
        obtain ⟨t, ht, hs⟩ := Option.bind_eq_some_iff.mp hs
        simp only [Option.some.injEq, Prod.mk.injEq] at hs; obtain ⟨rfl, rfl, rfl, rfl⟩ := hs
        exact lv_tableIn hx hb hd (fun q => hg (Or.inl q)) (fun q => hg (Or.inr q)) ho (mi_j_ok ht) (kk _ _ _ _ _ I L rm)
    · cases hs
  | lookupswitch df ps =>
    simp only [mi_sC] at hs
    split at hs
    · split at hs
      · rename_i hg
        obtain ⟨t, ht, hs⟩ := Option.bind_eq_some_iff.mp hs
        simp only [Option.some.injEq, Prod.mk.injEq] at hs; obtain ⟨rfl, rfl, rfl, rfl⟩ := hs
        exact lv_lookup hx hb hd hg rfl (mi_j_ok ht) (kk _ _ _ _ _ I L rm)
      · cases hs
    · cases hs
  | _ => exact absurd hs (by simp [mi_sC])
end
