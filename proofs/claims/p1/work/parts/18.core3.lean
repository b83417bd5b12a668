/-! ends, throws, calls: the small machine whole, and that the real one follows it -/
def mi_o (ad : Nat → Nat) (o : Option Value ⊕ Nat) : Outcome := match o with
  | .inl v => .returned (v.map (mi_v ad))
  | .inr x => .threw (ad x)
def mi_F (B : Nat) (ad : Nat → Nat) (D : va_G) (cA : Nat → ClassId) (s : State) (below : List Frame) (R : Room) (o : Option Value ⊕ Nat) (h' : mi_H) : State → Prop := fun t =>
  ∃ (L : List Loc) (k ns : Nat), t.status = .running ∧ Ended t below (mi_o ad o) ∧ s.WarmedH t.vm ∧ s.sameButNew ({ t with vm := s.vm } : State) L k ns ∧ mi_I B ad D cA h' s t.heap L k ∧ k + (mi_NC - h'.1) ≤ R.cells ∧ ns + (mi_NS - h'.2.1) ≤ R.slots
/-- the method's end: what it gives -/
def mi_e (rt : Option FieldType) (i : Instr) (st : List Value) : Option (Option Value) := match i, rt, st with
  | .ireturn, some .int, [.int v] => some (some (.int v))
  | .ireturn, some .boolean, [.int v] => if v = 0 ∨ v = 1 then some (some (.int v)) else none
  | .ireturn, some .byte, [.int v] => if v.toInt8.toInt32 = v then some (some (.int v)) else none
  | .ireturn, some .char, [.int v] => if v.toUInt32.toUInt16.toUInt32.toInt32 = v then some (some (.int v)) else none
  | .lreturn, some .long, [.long v] => some (some (.long v))
  | .return_, none, [] => some none
  | _, _, _ => none
/-- the locals at a method's entry -/
def mi_en (n : Nat) (as : List Value) : mi_L := (as.flatMap fun v => if v.category = 2 then [some v, none] else [some v]) ++ List.replicate (n - (lg_sl as).length) none
section
variable {p : Program} {l : Launch} {e : Env} {R : Room} {s : State} {m : MethodId} {args : Array Value} {below : List Frame} {meth : Method} {c : Code} {H H1 : Heap} {locs locs1 : List Loc} {cells slots : Nat} {Q Q' : State → Prop}
variable {B d nL : Nat} {ad : Nat → Nat} {D : va_G} {cA : Nat → ClassId} {cc : ByteArray} {h : mi_H} {y : Nat}
theorem mi_mono {g : JFrame} (hq : ∀ t, Q t → Q' t) (k : W p l e R s m args below meth c H locs cells slots Q g) : W p l e R s m args below meth c H locs cells slots Q' g :=
  fun T hT X => by
    obtain ⟨t, h1, h2⟩ := k T hT X
    exact ⟨t, h1, hq t h2⟩
theorem mi_I.lcs (I : mi_I B ad D cA h s H locs cells) (hl : ∀ q ∈ locs1, B ≤ q.base) : mi_I B ad D cA h s H locs1 cells := by
  obtain ⟨h1, h2, h3, h4, h5, h6, h7, h8⟩ := I
  exact ⟨h1, h2, h3, ⟨h4.1, h4.2.1, hl⟩, h5, h6, h7, h8⟩
theorem mi_fin (I : mi_I B ad D cA h s H locs cells) (rm : mi_rm d h R cells slots) {v : Option Value} {t : State} (hq : MQ below (fun _ _ o t => o = .returned (v.map (mi_v ad)) ∧ t.heap = H) args s cells slots (fun q => B ≤ q) t) : mi_F B ad D cA s below R (.inl v) h t := by
  obtain ⟨o, h1, h2, ⟨rfl, h3⟩, L, ⟨-, h4, h5⟩, h6⟩ := hq
  exact ⟨L, cells, slots, h1, h2, h4, h5, by rw [h3]; exact I.lcs h6, rm.2.2.1, rm.2.2.2⟩
theorem mi_e_ok {i : Instr} {pc len : Nat} {st : List Value} {v : Option Value} {lsR : Array Slot} (K : mi_Kx y cc p s m meth c nL) (he : mi_e (mt_rt y) i st = some v) (hd : decode cc pc = .ok (i, len)) (hln : mi_len i len = true) (I : mi_I B ad D cA h s H locs cells) (rm : mi_rm d h R cells slots) : W p l e R s m args below meth c H locs cells slots (mi_F B ad D cA s below R (.inl v) h) (F0 m pc lsR (st.map (mi_v ad))) := by
  have hx := K.1
  have hb := K.2.1
  have hr := K.2.2.2.2.2.1
  have hlk := K.2.2.2.2.2.2.1
  unfold mi_e at he
  split at he
  · rename_i v0 hrt
    obtain rfl : len = 1 := by simpa [mi_len] using hln
    cases he
    rw [hrt] at hr
    exact mi_mono (fun t ht => mi_fin I rm ht) (W.iret hx hb hr (fun t ht _ => ⟨rfl, ht⟩) I.S.2.2 hd hlk)
  · rename_i v0 hrt
    obtain rfl : len = 1 := by simpa [mi_len] using hln
    split at he
    · rename_i hv
      cases he
      rw [hrt] at hr
      exact mi_mono (fun t ht => mi_fin I rm ht) (W.zret hx hb hr (by rcases hv with rfl | rfl <;> decide) (fun t ht _ => ⟨rfl, ht⟩) I.S.2.2 hd hlk)
    · cases he
  · rename_i v0 hrt
    obtain rfl : len = 1 := by simpa [mi_len] using hln
    split at he
    · rename_i hv
      cases he
      rw [hrt] at hr
      exact mi_mono (fun t ht => mi_fin I rm ht) (W.zret hx hb hr (by show Value.int _ = _; rw [hv]) (fun t ht _ => ⟨rfl, ht⟩) I.S.2.2 hd hlk)
    · cases he
  · rename_i v0 hrt
    obtain rfl : len = 1 := by simpa [mi_len] using hln
    split at he
    · rename_i hv
      cases he
      rw [hrt] at hr
      exact mi_mono (fun t ht => mi_fin I rm ht) (W.zret hx hb hr (by show Value.int _ = _; rw [hv]) (fun t ht _ => ⟨rfl, ht⟩) I.S.2.2 hd hlk)
    · cases he
  · rename_i v0 hrt
    obtain rfl : len = 1 := by simpa [mi_len] using hln
    cases he
    rw [hrt] at hr
    exact mi_mono (fun t ht => mi_fin I rm ht) (W.lret hx hb hr (fun t ht _ => ⟨rfl, ht⟩) I.S.2.2 hd hlk)
  · rename_i hrt
    obtain rfl : len = 1 := by simpa [mi_len] using hln
    cases he
    rw [hrt] at hr
    exact mi_mono (fun t ht => mi_fin I rm ht) (W.vret hx hb hr (fun t ht _ => ⟨rfl, ht⟩) I.S.2.2 hd hlk)
  · cases he
/-! entry -/
theorem mi_lgl (as : List Value) : (lg_sl (as.map (mi_v ad))).length = (lg_sl as).length := by
  induction as with
  | nil => rfl
  | cons v t ih =>
    show (lg_sl (mi_v ad v :: t.map (mi_v ad))).length = _
    unfold lg_sl at ih ⊢
    rw [List.flatMap_cons, List.flatMap_cons, List.length_append, List.length_append, ih, mi_v_cat]
    split <;> rfl
theorem mi_en_len {n : Nat} {as : List Value} (hn : (lg_sl as).length ≤ n) : (mi_en n as).length = n := by
  have h1 : (as.flatMap fun v => if v.category = 2 then [some v, none] else [some v]).length = (lg_sl as).length := by
    clear hn
    induction as with
    | nil => rfl
    | cons v t ih =>
      unfold lg_sl at ih ⊢
      rw [List.flatMap_cons, List.flatMap_cons, List.length_append, List.length_append, ih]
      split <;> rfl
  unfold mi_en
  rw [List.length_append, h1, List.length_replicate]
  omega
theorem mi_en_args : ∀ (as : List Value) (k n i : Nat) (v : Value), mi_g ((as.flatMap fun v => if v.category = 2 then [some v, none] else [some v]) ++ List.replicate n none) i = some v → (k + i, mi_v ad v) ∈ lv_args k (as.map (mi_v ad)) := by
  intro as
  induction as with
  | nil =>
    intro k n i v hi
    exfalso
    unfold mi_g at hi
    rw [List.flatMap_nil, List.nil_append, List.getElem?_replicate] at hi
    split at hi
    · rename_i w hw
      split at hw
      · cases hw
        cases hi
      · cases hw
    · cases hi
  | cons w t ih =>
    intro k n i v hi
    rw [List.flatMap_cons, List.append_assoc] at hi
    show (k + i, mi_v ad v) ∈ (k, mi_v ad w) :: lv_args (if (mi_v ad w).category = 2 then k + 2 else k + 1) (t.map (mi_v ad))
    rw [mi_v_cat]
    by_cases hc : w.category = 2
    · rw [if_pos hc] at hi ⊢
      match i, hi with
      | 0, hi =>
        cases hi
        exact List.mem_cons_self
      | 1, hi => cases hi
      | j + 2, hi =>
        have := ih (k + 2) n j v hi
        rw [show k + (j + 2) = k + 2 + j by omega]
        exact List.mem_cons_of_mem _ this
    · rw [if_neg hc] at hi ⊢
      match i, hi with
      | 0, hi =>
        cases hi
        exact List.mem_cons_self
      | j + 1, hi =>
        have := ih (k + 1) n j v hi
        rw [show k + (j + 1) = k + 1 + j by omega]
        exact List.mem_cons_of_mem _ this
theorem mi_entry {n : Nat} {as : List Value} (mk : MethodId) (hn : (lg_sl as).length ≤ n) : ∃ lsR, entryFrame mk ((as.map (mi_v ad)).toArray) n = F0 mk 0 lsR [] ∧ mi_LR ad n (mi_en n as) lsR := by
  have h0 : (lg_sl (as.map (mi_v ad))).length ≤ n := by rw [mi_lgl]; exact hn
  have h1 := lv_entry (as.map (mi_v ad)) h0
  refine ⟨_, lg_entry_eq mk _ n, mi_en_len hn, h1.1, h1.2.1, fun i v hi => ?_⟩
  have h2 := mi_en_args (ad := ad) as 0 _ i v hi
  rw [Nat.zero_add] at h2
  exact h1.2.2 _ h2
/-! the words, at a callee's start -/
theorem mi_T.to {U : State} (h : mi_T s) (hW : s.WarmedH U.vm) : mi_T U :=
  ⟨fun a w hw => word_at (args := a) hW (good_of_word hw.2) (h.1 a w hw), fun q hq => va_Nw.warmM hW (h.2.1 q hq), fun q hq => va_Nc.moved hW.alike (h.2.2.1 q hq), fun C hC => va_AO.moved hW.alike (h.2.2.2 C hC)⟩
theorem mi_X.to {U : State} {b L : Nat} {xs : Nat → Int32} (hX : va_X b L xs s s.heap) (hW : s.vm.Alike U.vm) (hh : U.heap[b]? = s.heap[b]?) : va_X b L xs U U.heap := by
  obtain ⟨scr, z1, z2, z3, z4, z5⟩ := hX
  exact ⟨scr, hh.trans z1, State.isArrayOf_alike hW z2, z3, z4, z5⟩
theorem mi_Fo.to {U : State} {f : Nat → mi_C} (hF : mi_Fo B ad f s) (hB : B ≤ s.heap.size) (hW : s.WarmedH U.vm) (hh : ∀ a : Nat, a < s.heap.size → ¬ B ≤ a → U.heap[a]? = s.heap[a]?) : mi_Fo B ad f U := by
  obtain ⟨⟨h0, L, xs, h1, h2⟩, h3, h4, h5, h6, h7, h8⟩ := hF
  refine ⟨⟨h0, L, xs, h1, mi_X.to h2 hW.alike (hh _ (Nat.lt_of_lt_of_le h0 hB) (Nat.not_le.mpr h0))⟩, fun n hn => ?_, fun q hq => vk_R.warm hW (h4 q hq), (h5.moved hW.alike).kept hh, (h6.moved hW.alike).kept hh, h7.to hW.alike hh, h8.to hW.alike hh⟩
  obtain ⟨z1, z2, z3, z4⟩ := h3 n hn
  exact ⟨(z1.moved hW.alike).kept hh, (z2.moved hW.alike).kept hh, (z3.moved hW.alike).kept hh, (z4.moved hW.alike).kept hh⟩
theorem mi_steps {tb : Tables} {g : JFrame} {a z : State} (h : Steps tb e (.java g :: below) a z) : Steps tb e below a z := by
  obtain ⟨n, h1, h2⟩ := h
  exact ⟨n, h1, fun k hk => Within.weaken (mid := [.java g]) (h2 k hk)⟩
/-- the callee's room -/
def mi_R (d : Nat) (h : mi_H) : Room := { frames := d + 8, cells := mi_NC - h.1, slots := mi_NS - h.2.1, locals := 100 * d + 200 }
/-- into the callee and to its end -/
theorem mi_into {T : State} (X : Stand p l e R s m args below meth c T locs cells slots) (hT : T.heap = H) (I : mi_I B ad D cA h s H locs cells) (rm : mi_rm (d + 1) h R cells slots) {g : JFrame} (hg : g.method = m) (hsize : g.locals.size = c.maxLocals) {ig : Instr} (hdg : decode c.code g.pc = .ok (ig, 3)) (hw : 2 * g.monitorRoom + (g.stack.map fun v => v.category).sum ≤ 8)
    {y2 : Nat} {mk : MethodId} {methk : Method} {ck : Code} (hmk : T.vm.method? mk = some methk) (hck : methk.code = some ck) (hpk : T.plainMethod mk) (K2 : ∀ (U : State), T.vm = U.vm → mi_Kx y2 (mt_by y2) p U mk methk ck (mt_ml y2)) (hml : mt_ml y2 ≤ 80) {as : List Value} (has : (lg_sl as).length ≤ mt_ml y2) {o : Option Value ⊕ Nat} {h' : mi_H}
    (ih : ∀ (s' : State) (below' : List Frame) (R' : Room) (a' : Array Value) (lsR : Array Slot), mi_Kx y2 (mt_by y2) p s' mk methk ck (mt_ml y2) → mi_LR ad (mt_ml y2) (mi_en (mt_ml y2) as) lsR → mi_I B ad D cA h s' H [] 0 → mi_rm d h R' 0 0 → W p l e R' s' mk a' below' methk ck H [] 0 0 (mi_F B ad D cA s' below' R' o h') (F0 mk 0 lsR [])) :
    ∃ t, Steps p.tables e below (doInvoke e (T.setTop g) [] mk ((as.map (mi_v ad)).toArray)).1 t ∧ mi_F B ad D cA (T.calling g mk ((as.map (mi_v ad)).toArray)) (.java g :: below) (mi_R d h) o h' t := by
  have hK2 := K2 (T.calling g mk ((as.map (mi_v ad)).toArray)) rfl
  have hckl : ck.maxLocals = mt_ml y2 := hK2.2.2.2.1
  have hlk : methk.locks = false := hK2.2.2.2.2.2.2.1
  obtain ⟨rm1, rm2, rm3, rm4⟩ := rm
  obtain ⟨Y, hin⟩ := X.into hg hsize hdg ((as.map (mi_v ad)).toArray) (R' := mi_R d h) hmk hck hlk hpk (by show d + 8 + 1 ≤ R.frames; omega) (by show _ + (ck.maxLocals + 11) + (100 * d + 200) ≤ R.locals; omega) rm3 rm4
  rw [hin []]
  obtain ⟨lsR, hE, hLR⟩ := mi_entry (ad := ad) mk has
  have hsz : T.heap.size = B + h.1 := by
    have h1 := X.heapSize
    have h2 := I.sz
    have h3 : B + h.1 ≤ T.heap.size := by
      rw [hT]
      rcases Nat.eq_zero_or_pos h.1 with z | z
      · rw [z, Nat.add_zero]
        exact Nat.le_trans I.le I.S.1
      · have h4 := (I.P _ _ (mi_ws_get (p := h.1 - 1) (by omega))).lt
        simp only at h4
        omega
    omega
  have hI2 : mi_I B ad D cA h (T.calling g mk ((as.map (mi_v ad)).toArray)) H [] 0 := by
    obtain ⟨i1, i2, i3, i4, i5, i6, i7⟩ := I
    have hW : s.WarmedH (T.calling g mk ((as.map (mi_v ad)).toArray)).vm := X.warmed
    refine ⟨i1, va_K.moved hW.alike i2, i3, ?_, ⟨?_, ?_, i5.2.2⟩, mi_T.to i6 hW, mi_Fo.to i7 i5.2.1 hW (fun a h1 h2 => ?_)⟩
    · show va_S _ T.heap H []
      rw [hT]
      exact va_S.rf
    · show T.heap.size + 0 = _
      rw [hsz, Nat.add_zero]
    · show B ≤ T.heap.size
      rw [hsz]
      exact Nat.le_add_right _ _
    · show T.heap[a]? = _
      rw [hT]
      exact i4.2.1 a h1 h2
  have hwalk := ih (T.calling g mk ((as.map (mi_v ad)).toArray)) (.java g :: below) (mi_R d h) ((as.map (mi_v ad)).toArray) lsR hK2 hLR hI2 ⟨Nat.le_refl _, Nat.le_refl _, by show 0 + _ ≤ _; rw [Nat.zero_add]; exact Nat.le_refl _, by show 0 + _ ≤ _; rw [Nat.zero_add]; exact Nat.le_refl _⟩
  rw [hckl, hE]
  rw [hckl, hE] at Y
  obtain ⟨t, h1, h2⟩ := hwalk _ (by show T.heap = H; exact hT) Y
  exact ⟨t, mi_steps h1, h2⟩
end
section
variable {p : Program} {l : Launch} {e : Env} {R : Room} {s : State} {m : MethodId} {args : Array Value} {below : List Frame} {meth : Method} {c : Code} {H H1 : Heap} {locs locs1 : List Loc} {cells slots : Nat} {Q Q' : State → Prop}
variable {B d nL : Nat} {ad : Nat → Nat} {D : va_G} {cA : Nat → ClassId} {cc : ByteArray} {h : mi_H} {y : Nat}
/-- back in the caller: its own words -/
theorem mi_back {T s' : State} (X : Stand p l e R s m args below meth c T locs cells slots) (hT : T.heap = H) (hs : s'.heap = H) (hv : s'.vm = T.vm) (I : mi_I B ad D cA h s H locs cells) (rm : mi_rm d h R cells slots) {h' : mi_H} {H' : Heap} {L : List Loc} {k ns : Nat} (I' : mi_I B ad D cA h' s' H' L k) (h1 : k + (mi_NC - h'.1) ≤ mi_NC - h.1) (h2 : ns + (mi_NS - h'.2.1) ≤ mi_NS - h.2.1) :
    mi_I B ad D cA h' s H' (locs ++ L) (cells + k) ∧ mi_rm d h' R (cells + k) (slots + ns) := by
  have hsz : H.size = B + h.1 := by
    have h1 := X.heapSize
    have h2 := I.sz
    rw [hT] at h1
    have h3 : B + h.1 ≤ H.size := by
      rcases Nat.eq_zero_or_pos h.1 with z | z
      · rw [z, Nat.add_zero]
        exact Nat.le_trans I.le I.S.1
      · have h4 := (I.P _ _ (mi_ws_get (p := h.1 - 1) (by omega))).lt
        simp only at h4
        omega
    omega
  have hW : s.vm.Alike s'.vm := by rw [hv]; exact X.warmed.alike
  obtain ⟨j1, j2, j3, j4, j5, j6, ⟨j7, L', xs, j8, j9⟩, -⟩ := I'
  obtain ⟨i1, i2, i3, i4, i5, i6, i7⟩ := I
  rw [hs] at j4 j5
  refine ⟨⟨i1, i2, j3, ⟨Nat.le_trans i4.1 j4.1, fun q q1 q2 => ?_, fun q hq => ?_⟩, ⟨?_, i5.2.1, j5.2.2⟩, i6, ⟨j7, L', xs, j8, ?_⟩, i7.2⟩, rm.1, rm.2.1, ?_, ?_⟩
  · rw [j4.2.1 q (Nat.lt_of_lt_of_le q1 i4.1) q2]
    exact i4.2.1 q q1 q2
  · rcases List.mem_append.mp hq with z | z
    · exact i4.2.2 q z
    · exact j4.2.2 q z
  · have := i5.1
    have := j5.1
    omega
  · refine mi_X.to j9 hW.symm ?_
    rw [hs]
    exact (i4.2.1 _ (Nat.lt_of_lt_of_le j7 i5.2.1) (Nat.not_le.mpr j7)).symm
  · have := rm.2.2.1
    omega
  · have := rm.2.2.2
    omega
/-! the search of a handler, its classes resolved or not yet -/
theorem mi_go_link {x : ExceptionTableEntry} {t : List ExceptionTableEntry} {cT : ClassId} {cell : Cell} {f : JFrame} {a : Addr} {U : State} {Qh : Handler → Pre} {E : CtlPost} {dd : Bool} {acts : List Action} (hx : covers x f.pc = true) (h0 : x.catchType ≠ 0)
    (hl : U.vm.ClassLinks e.platform f.method.cls x.catchType cT) (hcell : U.heap[a]? = some cell) (hobj : ∀ k, cell.vm ≠ .statics k)
    (hk : ∃ k, U.vm.classes[cell.cls]? = some k) (hc : ∃ k, U.vm.classes[cT]? = some k) :
    wp (findHandler.go f a (x :: t)) Qh E e dd acts U ↔ if U.vm.assignable cell.cls cT = true then Qh (.found x.handlerPc) dd acts (U.setVm (U.vm.noted f.method.cls x.catchType (.cls cT))) else wp (findHandler.go f a t) Qh E e dd acts (U.setVm (U.vm.noted f.method.cls x.catchType (.cls cT))) := by
  simp only [covers] at hx
  obtain ⟨ha, ht⟩ := (resolveClass_links e.toSetting hl).op (op := VmOp.resolveClass f.method.cls x.catchType) rfl
  have hal : U.vm.Alike (U.vm.noted f.method.cls x.catchType (.cls cT)) := (Vm.Alike.refl U.vm).noted _ _ _
  obtain ⟨k1, hk1⟩ := hk
  obtain ⟨k2, hk2⟩ := hc
  obtain ⟨k1', hk1', -⟩ := hal.2.2 _ _ hk1
  obtain ⟨k2', hk2', -⟩ := hal.2.2 _ _ hk2
  have hfit' : (U.vm.noted f.method.cls x.catchType (.cls cT)).assignable cell.cls cT = U.vm.assignable cell.cls cT := by rw [hal.assignable]
  by_cases hf : U.vm.assignable cell.cls cT = true
  · rw [if_pos hf]
    rw [hf] at hfit'
    simp [findHandler.go, hx, h0, ha, ht, hcell, hobj, hk1', hk2', hfit', VmOp.dirties, VmOp.acts]
  · rw [if_neg hf]
    have hf' : U.vm.assignable cell.cls cT = false := by simpa using hf
    rw [hf'] at hfit'
    simp [findHandler.go, hx, h0, ha, ht, hcell, hobj, hk1', hk2', hfit', VmOp.dirties, VmOp.acts]
end
