theorem mt_df_ok {ad : Nat → Nat} {ci : Nat} {C : String} {T : u_T} {N : Nat} (h : mt_cl[ci]? = some (C, T, N)) (hn : mt_nw ci = true) : ∀ j, j < N → defaultValue (mt_ft ci j) = vp_V ((mt_df ci).map (mi_v ad)) j := by
  match ci, h with
  | 0, h => cases h; intro j hj; match j, hj with
    | 0, _ => rfl
    | 1, _ => rfl
    | 2, _ => rfl
    | 3, _ => rfl
    | 4, _ => rfl
    | 5, _ => rfl
    | 6, _ => rfl
    | 7, _ => rfl
    | 8, _ => rfl
    | 9, _ => rfl
    | j + 10, hj => exact absurd hj (by omega)
  | 1, h => cases h; intro j hj; match j, hj with
    | 0, _ => rfl
    | 1, _ => rfl
    | 2, _ => rfl
    | 3, _ => rfl
    | 4, _ => rfl
    | 5, _ => rfl
    | 6, _ => rfl
    | j + 7, hj => exact absurd hj (by omega)
  | 2, h => cases h; intro j hj; match j, hj with
    | 0, _ => rfl
    | 1, _ => rfl
    | 2, _ => rfl
    | 3, _ => rfl
    | 4, _ => rfl
    | 5, _ => rfl
    | 6, _ => rfl
    | 7, _ => rfl
    | 8, _ => rfl
    | 9, _ => rfl
    | 10, _ => rfl
    | 11, _ => rfl
    | 12, _ => rfl
    | j + 13, hj => exact absurd hj (by omega)
  | 3, h => cases h; intro j hj; match j, hj with
    | 0, _ => rfl
    | 1, _ => rfl
    | 2, _ => rfl
    | 3, _ => rfl
    | 4, _ => rfl
    | 5, _ => rfl
    | 6, _ => rfl
    | j + 7, hj => exact absurd hj (by omega)
  | 4, h => cases h; intro j hj; match j, hj with
    | 0, _ => rfl
    | 1, _ => rfl
    | 2, _ => rfl
    | 3, _ => rfl
    | 4, _ => rfl
    | j + 5, hj => exact absurd hj (by omega)
  | 5, h => cases h; intro j hj; match j, hj with
    | 0, _ => rfl
    | 1, _ => rfl
    | j + 2, hj => exact absurd hj (by omega)
  | 6, h => cases h; intro j hj; match j, hj with
    | 0, _ => rfl
    | 1, _ => rfl
    | 2, _ => rfl
    | 3, _ => rfl
    | 4, _ => rfl
    | 5, _ => rfl
    | j + 6, hj => exact absurd hj (by omega)
  | 7, h => cases h; intro j hj; match j, hj with
    | 0, _ => rfl
    | 1, _ => rfl
    | 2, _ => rfl
    | 3, _ => rfl
    | 4, _ => rfl
    | 5, _ => rfl
    | 6, _ => rfl
    | 7, _ => rfl
    | j + 8, hj => exact absurd hj (by omega)
  | 8, h => cases h; intro j hj; match j, hj with
    | 0, _ => rfl
    | 1, _ => rfl
    | 2, _ => rfl
    | 3, _ => rfl
    | 4, _ => rfl
    | 5, _ => rfl
    | 6, _ => rfl
    | 7, _ => rfl
    | j + 8, hj => exact absurd hj (by omega)
  | 9, h => cases h; intro j hj; match j, hj with
    | 0, _ => rfl
    | 1, _ => rfl
    | 2, _ => rfl
    | 3, _ => rfl
    | 4, _ => rfl
    | 5, _ => rfl
    | 6, _ => rfl
    | j + 7, hj => exact absurd hj (by omega)
  | 10, h => cases h; intro j hj; match j, hj with
    | 0, _ => rfl
    | 1, _ => rfl
    | 2, _ => rfl
    | 3, _ => rfl
    | 4, _ => rfl
    | j + 5, hj => exact absurd hj (by omega)
  | 11, h => cases h; intro j hj; match j, hj with
    | 0, _ => rfl
    | 1, _ => rfl
    | 2, _ => rfl
    | 3, _ => rfl
    | 4, _ => rfl
    | 5, _ => rfl
    | 6, _ => rfl
    | 7, _ => rfl
    | 8, _ => rfl
    | 9, _ => rfl
    | 10, _ => rfl
    | 11, _ => rfl
    | j + 12, hj => exact absurd hj (by omega)
  | 12, h => cases h; intro j hj; match j, hj with
    | 0, _ => rfl
    | 1, _ => rfl
    | 2, _ => rfl
    | 3, _ => rfl
    | 4, _ => rfl
    | 5, _ => rfl
    | 6, _ => rfl
    | 7, _ => rfl
    | 8, _ => rfl
    | 9, _ => rfl
    | 10, _ => rfl
    | 11, _ => rfl
    | 12, _ => rfl
    | 13, _ => rfl
    | 14, _ => rfl
    | 15, _ => rfl
    | 16, _ => rfl
    | 17, _ => rfl
    | 18, _ => rfl
    | 19, _ => rfl
    | 20, _ => rfl
    | 21, _ => rfl
    | 22, _ => rfl
    | 23, _ => rfl
    | 24, _ => rfl
    | 25, _ => rfl
    | 26, _ => rfl
    | 27, _ => rfl
    | 28, _ => rfl
    | 29, _ => rfl
    | 30, _ => rfl
    | 31, _ => rfl
    | 32, _ => rfl
    | 33, _ => rfl
    | 34, _ => rfl
    | 35, _ => rfl
    | 36, _ => rfl
    | 37, _ => rfl
    | 38, _ => rfl
    | 39, _ => rfl
    | 40, _ => rfl
    | 41, _ => rfl
    | 42, _ => rfl
    | 43, _ => rfl
    | 44, _ => rfl
    | 45, _ => rfl
    | 46, _ => rfl
    | 47, _ => rfl
    | 48, _ => rfl
    | 49, _ => rfl
    | 50, _ => rfl
    | 51, _ => rfl
    | 52, _ => rfl
    | 53, _ => rfl
    | 54, _ => rfl
    | 55, _ => rfl
    | 56, _ => rfl
    | 57, _ => rfl
    | 58, _ => rfl
    | 59, _ => rfl
    | 60, _ => rfl
    | 61, _ => rfl
    | 62, _ => rfl
    | 63, _ => rfl
    | 64, _ => rfl
    | 65, _ => rfl
    | 66, _ => rfl
    | 67, _ => rfl
    | 68, _ => rfl
    | 69, _ => rfl
    | 70, _ => rfl
    | 71, _ => rfl
    | 72, _ => rfl
    | 73, _ => rfl
    | 74, _ => rfl
    | 75, _ => rfl
    | 76, _ => rfl
    | 77, _ => rfl
    | 78, _ => rfl
    | 79, _ => rfl
    | 80, _ => rfl
    | 81, _ => rfl
    | 82, _ => rfl
    | 83, _ => rfl
    | 84, _ => rfl
    | 85, _ => rfl
    | 86, _ => rfl
    | 87, _ => rfl
    | j + 88, hj => exact absurd hj (by omega)
  | 13, h => cases h; intro j hj; match j, hj with
    | 0, _ => rfl
    | 1, _ => rfl
    | 2, _ => rfl
    | 3, _ => rfl
    | 4, _ => rfl
    | 5, _ => rfl
    | 6, _ => rfl
    | j + 7, hj => exact absurd hj (by omega)
  | 14, h => exact absurd hn (by decide)
  | 15, h => exact absurd hn (by decide)
  | 16, h => exact absurd hn (by decide)
  | n + 17, h => cases h
def mi_NC : Nat := 600002
def mi_NS : Nat := 7302232
theorem mi_NC_SC : mi_NC ≤ mi_SC := by decide +kernel
def mt_ka (ci : Nat) : Option Nat := if ci = 9 then some 4 else if ci = 17 then some 5 else if ci = 13 then some 6 else none
theorem mt_ka_ok {ci k : Nat} (h : mt_ka ci = some k) : k < mt_na ∧ mt_at k = .object (mt_cn ci) ∧ mt_cn ci ∈ mt_ovs := by
  unfold mt_ka at h
  split at h
  · rename_i e; subst e; cases h; exact ⟨by decide, rfl, by decide⟩
  · split at h
    · rename_i e; subst e; cases h; exact ⟨by decide, rfl, by decide⟩
    · split at h
      · rename_i e; subst e; cases h; exact ⟨by decide, rfl, by decide⟩
      · cases h
def mi_at (t : ArrayType) : Option (Nat × ((Nat → Int32) ⊕ (Nat → Int64) ⊕ (Nat → UInt32) ⊕ (Nat → UInt64) ⊕ (Nat → Option Nat))) := match t with
  | .int => some (0, .inl (fun _ => 0))
  | .byte => some (1, .inl (fun _ => 0))
  | .boolean => some (2, .inl (fun _ => 0))
  | .long => some (3, .inr (.inl (fun _ => 0)))
  | _ => none
theorem mi_at_ok {ad : Nat → Nat} {t : ArrayType} {k : Nat} {z : (Nat → Int32) ⊕ (Nat → Int64) ⊕ (Nat → UInt32) ⊕ (Nat → UInt64) ⊕ (Nat → Option Nat)} (h : mi_at t = some (k, z)) : k < mt_na ∧ mt_B (Cond.arrayClass (newarray.typeOf t)) ∧ newarray.typeOf t = mt_at k ∧ (∀ (c9 : ClassId) (n : Nat), vp_cell c9 (mi_a ad (n, z)) = arrV c9 n (fun _ => defaultValue (mt_at k))) ∧ ∀ n : Nat, n * componentBytes (mt_at k) ≤ n * 8 := by
  cases t <;> first | (exact absurd h (by decide)) | skip
  all_goals (cases h)
  · exact ⟨by decide, mt_arr_boolean, rfl, fun _ _ => rfl, fun n => Nat.mul_le_mul_left n (by decide)⟩
  · exact ⟨by decide, mt_arr_byte, rfl, fun _ _ => rfl, fun n => Nat.mul_le_mul_left n (by decide)⟩
  · exact ⟨by decide, mt_arr_int, rfl, fun _ _ => rfl, fun n => Nat.mul_le_mul_left n (by decide)⟩
  · exact ⟨by decide, mt_arr_long, rfl, fun _ _ => rfl, fun n => Nat.mul_le_mul_left n (by decide)⟩
/-! what holds between the places and the heap, inside a method that began at s -/
def mi_ty (cA : Nat → ClassId) : List (ClassId × FieldType) := (List.range mt_na).map (fun k => (cA k, mt_at k))
theorem mi_ty_get {cA : Nat → ClassId} {k : Nat} (h : k < mt_na) : (mi_ty cA)[k]? = some (cA k, mt_at k) := by simp [mi_ty, h]
/-- a String constant n: its two cells lie outside -/
def mi_St (B : Nat) (ad : Nat → Nat) (n : Nat) (s : State) (H : Heap) : Prop := va_O "java/lang/String" (ad (mi_SC + 1 + 2 * n)) (fun q => B ≤ q) s H ∧ va_OF "java/lang/String" "coder" "B" (.int 0) (ad (mi_SC + 1 + 2 * n)) (fun q => B ≤ q) s H ∧ va_OF "java/lang/String" "value" "[B" (.ref (ad (mi_SC + 2 + 2 * n))) (ad (mi_SC + 1 + 2 * n)) (fun q => B ≤ q) s H ∧ va_T .byte (ad (mi_SC + 2 + 2 * n)) (mt_sl.getD n 0) (fun j => .int ((mt_sb.getD n []).getD j 0)) (fun q => B ≤ q) s H
/-- the cells outside: the script, the texts -/
def mi_fo (L : Nat) (xs : Nat → Int32) (q : Nat) : mi_C := if q = mi_SC then .inl (0, L, .inl xs) else if (q - mi_SC - 1) % 2 = 0 then .inr (17, [.ref (q + 1), .int 0]) else .inl (1, mt_sl.getD ((q - mi_SC - 1) / 2) 0, .inl (fun j => (mt_sb.getD ((q - mi_SC - 1) / 2) []).getD j 0))
/-- a static that nobody writes, and what it lies in -/
def mi_Zs (C n d : String) (B : Nat) (s : State) (H : Heap) : Prop := ∃ (c : ClassId) (k : Class) (i : Nat) (f : Field) (a : Nat) (cell : Cell) (v : Value), s.vm.findClass C = some c ∧ s.fieldFound? C n d = some (c, k, i, f) ∧ f.isStatic = true ∧ k.statics = some a ∧ (H[a]? = some cell ∧ ¬ B ≤ a) ∧ cell.vm.isStatics = true ∧ cell.cls = c ∧ f.slot < cell.slots.size ∧ k.staticTypes[f.slot]? = some f.type ∧ cell.slots[f.slot]? = some v ∧ v.isRef = true
theorem mi_Zs.to {C n d : String} {B : Nat} {s U : State} (h : mi_Zs C n d B s s.heap) (hvm : s.vm.Alike U.vm) (hh : ∀ a : Nat, a < s.heap.size → ¬ B ≤ a → U.heap[a]? = s.heap[a]?) : mi_Zs C n d B U U.heap := by
  obtain ⟨c, k, i, f, a, cell, v, h1, h2, h3, h4, ⟨h5, h5'⟩, h6, h7, h8, h9, h10⟩ := h
  obtain ⟨k', hi', he⟩ := State.fieldFound?_setVm hvm h2
  exact ⟨c, k', i, f, a, cell, v, by rw [hvm.findClass]; exact h1, hi', h3, by rw [he]; exact h4, ⟨(hh a (Array.getElem?_eq_some_iff.mp h5).1 h5').trans h5, h5'⟩, h6, h7, h8, by rw [he]; exact h9, h10⟩
/-- what lies outside, at the method's start -/
def mi_Fo (B : Nat) (ad : Nat → Nat) (f : Nat → mi_C) (s : State) : Prop :=
  (ad mi_SC < B ∧ ∃ (L : Nat) (xs : Nat → Int32), (∀ q, mi_SC ≤ q → f q = mi_fo L xs q) ∧ va_X (ad mi_SC) L xs s s.heap) ∧ (∀ n, n < mt_ns → mi_St B ad n s s.heap) ∧ (∀ q ∈ mt_sr, vk_R (mt_cn q.1) q.2.1 q.2.2.2 (ad (mi_SC + 1 + 2 * q.2.2.1)) s) ∧ va_Z "java/lang/String" "COMPACT_STRINGS" "Z" (.int 1) (fun q => B ≤ q) s s.heap ∧ va_Z "jdk/internal/util/Preconditions" "SIOOBE_FORMATTER" "Ljava/util/function/BiFunction;" (mi_v ad (.retAddr 0)) (fun q => B ≤ q) s s.heap ∧ mi_Zs "java/lang/Throwable" "UNASSIGNED_STACK" "[Ljava/lang/StackTraceElement;" B s s.heap ∧ mi_Zs "java/lang/Throwable" "SUPPRESSED_SENTINEL" "Ljava/util/List;" B s s.heap
/-- the tables' words -/
def mi_T (s : State) : Prop := (∀ (a : Array Value) (w : Cond), mt_B w → w.before a s = true) ∧ (∀ q ∈ mt_nest, va_Nw (.methodLinkNest q.1 q.2.1 q.2.2.1 q.2.2.2) s) ∧ (∀ q ∈ mt_nc, va_Nc q.1 q.2 s) ∧ ∀ C ∈ mt_ovs, va_AO C s
def mi_I (B : Nat) (ad : Nat → Nat) (D : va_G) (cA : Nat → ClassId) (h : mi_H) (s : State) (H : Heap) (locs : List Loc) (cells : Nat) : Prop :=
  (∀ q, q < mi_SC → ad q = B + q) ∧ va_K D mt_cl (mi_ty cA) s ∧ va_P D mt_cl (mi_ws B ad cA h.1 h.2.2) H ∧ va_S (fun q => B ≤ q) s.heap H locs ∧ (s.heap.size + cells = B + h.1 ∧ B ≤ s.heap.size ∧ h.1 ≤ mi_SC) ∧ mi_T s ∧ mi_Fo B ad h.2.2 s
def mi_rm (d : Nat) (h : mi_H) (R : Room) (cells slots : Nat) : Prop := d + 8 ≤ R.frames ∧ 100 * d + 200 ≤ R.locals ∧ cells + (mi_NC - h.1) ≤ R.cells ∧ slots + (mi_NS - h.2.1) ≤ R.slots
def mi_Kx (y : Nat) (cc : ByteArray) (p : Program) (s : State) (m : MethodId) (meth : Method) (c : Code) (nL : Nat) : Prop :=
  p.tables.exec = Jvm.exec ∧ c.code = cc ∧ s.vm.findClass (mt_cn (mt_oc y)) = some m.cls ∧ c.maxLocals = nL ∧ (mt_ini y = true → meth.name = "<init>") ∧ meth.sig.returnType = mt_rt y ∧ meth.locks = false ∧ c.exceptionTable.toList.map (fun h => (h.startPc, h.endPc, h.handlerPc, h.catchType)) = mt_hd y
section
variable {p : Program} {l : Launch} {e : Env} {R : Room} {s : State} {m : MethodId} {args : Array Value} {below : List Frame} {meth : Method} {c : Code} {H H1 : Heap} {locs locs1 : List Loc} {cells slots : Nat} {Q : State → Prop}
variable {B d nL : Nat} {ad : Nat → Nat} {D : va_G} {cA : Nat → ClassId} {cc : ByteArray} {h : mi_H} {y : Nat}
theorem mi_I.K (I : mi_I B ad D cA h s H locs cells) : va_K D mt_cl (mi_ty cA) s := I.2.1
theorem mi_I.P (I : mi_I B ad D cA h s H locs cells) : va_P D mt_cl (mi_ws B ad cA h.1 h.2.2) H := I.2.2.1
theorem mi_I.S (I : mi_I B ad D cA h s H locs cells) : va_S (fun q => B ≤ q) s.heap H locs := I.2.2.2.1
theorem mi_I.sz (I : mi_I B ad D cA h s H locs cells) : s.heap.size + cells = B + h.1 := I.2.2.2.2.1.1
theorem mi_I.le (I : mi_I B ad D cA h s H locs cells) : B ≤ s.heap.size := I.2.2.2.2.1.2.1
theorem mi_I.lt (I : mi_I B ad D cA h s H locs cells) : h.1 ≤ mi_SC := I.2.2.2.2.1.2.2
theorem mi_I.tb (I : mi_I B ad D cA h s H locs cells) : ∀ (a : Array Value) (w : Cond), mt_B w → w.before a s = true := I.2.2.2.2.2.1.1
theorem mi_I.tt (I : mi_I B ad D cA h s H locs cells) : mi_T s := I.2.2.2.2.2.1
theorem mi_I.fo (I : mi_I B ad D cA h s H locs cells) : mi_Fo B ad h.2.2 s := I.2.2.2.2.2.2
theorem mi_I.tbl (I : mi_I B ad D cA h s H locs cells) (a : Array Value) {ws : List Cond} (hw : ∀ w ∈ ws, mt_B w) : ∀ w ∈ ws, w.before a s = true := fun w h => I.tb a w (hw w h)
theorem mi_I.hA (I : mi_I B ad D cA h s H locs cells) : ∀ q, s.heap.size ≤ q → (fun q => B ≤ q) q := fun _ hq => Nat.le_trans I.le hq
theorem mi_I.script0 (I : mi_I B ad D cA h s H locs cells) {k n : Nat} {a : (Nat → Int32) ⊕ (Nat → Int64) ⊕ (Nat → UInt32) ⊕ (Nat → UInt64) ⊕ (Nat → Option Nat)} (hc : h.2.2 mi_SC = .inl (k, n, a)) : ∃ xs, k = 0 ∧ a = .inl xs := by
  obtain ⟨-, L, xs, h1, -⟩ := I.fo.1
  rw [h1 _ (Nat.le_refl _)] at hc
  simp only [mi_fo, if_true] at hc
  cases hc
  exact ⟨xs, rfl, rfl⟩
theorem mi_I.script (I : mi_I B ad D cA h s H locs cells) {n : Nat} {xs : Nat → Int32} (hc : h.2.2 mi_SC = .inl (0, n, .inl xs)) : va_X (ad mi_SC) n xs s s.heap ∧ ad mi_SC < s.heap.size ∧ ¬ (fun q => B ≤ q) (ad mi_SC) ∧ va_S (fun q => B ≤ q) s.heap H locs := by
  obtain ⟨hb, L, xs', h1, h2⟩ := I.fo.1
  rw [h1 _ (Nat.le_refl _)] at hc
  simp only [mi_fo, if_true] at hc
  cases hc
  exact ⟨h2, Nat.lt_of_lt_of_le hb I.le, Nat.not_le.mpr hb, I.S⟩
theorem mi_Fo.upd {f g : Nat → mi_C} (hF : mi_Fo B ad f s) (hg : ∀ q, mi_SC ≤ q → g q = f q) : mi_Fo B ad g s := by
  obtain ⟨⟨h0, L, xs, h1, h2⟩, h3⟩ := hF
  exact ⟨⟨h0, L, xs, fun q hq => (hg q hq).trans (h1 q hq), h2⟩, h3⟩
theorem mi_I.upd (I : mi_I B ad D cA h s H locs cells) {q : Nat} {c' : mi_C} (hq : q < h.1) (hP : va_P D mt_cl (mi_ws B ad cA h.1 (va_up h.2.2 q c')) H1) (hS : va_S (fun q => B ≤ q) s.heap H1 locs1) : mi_I B ad D cA (h.1, h.2.1, va_up h.2.2 q c') s H1 locs1 cells := by
  obtain ⟨h1, h2, -, -, h5, h6, h7⟩ := I
  refine ⟨h1, h2, hP, hS, h5, h6, h7.upd (fun z hz => ?_)⟩
  have hne : ¬ z = q := fun e => by
    have := h5.2.2
    omega
  show va_up h.2.2 q c' z = _
  unfold va_up
  rw [if_neg hne]
theorem mi_I.push (I : mi_I B ad D cA h s H locs cells) {c' : mi_C} {sl : Nat} (hP : va_P D mt_cl (mi_ws B ad cA (h.1 + 1) (va_up h.2.2 h.1 c')) H1) (hS : va_S (fun q => B ≤ q) s.heap H1 locs1) (hlt : h.1 + 1 ≤ mi_SC) : mi_I B ad D cA (h.1 + 1, sl, va_up h.2.2 h.1 c') s H1 locs1 (cells + 1) := by
  obtain ⟨h1, h2, -, -, h5, h6, h7⟩ := I
  refine ⟨h1, h2, hP, hS, ⟨?_, h5.2.1, hlt⟩, h6, h7.upd (fun z hz => ?_)⟩
  · have := h5.1
    show s.heap.size + (cells + 1) = B + (h.1 + 1)
    omega
  · have hne : ¬ z = h.1 := fun e => by omega
    show va_up h.2.2 h.1 c' z = _
    unfold va_up
    rw [if_neg hne]
theorem mi_v_ref (I : mi_I B ad D cA h s H locs cells) {q : Nat} (hq : q < h.1) : mi_v ad (.ref q) = .ref (B + q) := by
  show Value.ref (ad q) = _
  rw [I.1 q (Nat.lt_of_lt_of_le hq I.lt)]
theorem mi_v_sc : mi_v ad (.ref mi_SC) = .ref (ad mi_SC) := rfl
theorem mi_v_new (I : mi_I B ad D cA h s H locs cells) (hq : h.1 + 1 ≤ mi_SC) : mi_v ad (.ref h.1) = .ref (B + h.1) := by
  show Value.ref (ad h.1) = _
  rw [I.1 h.1 hq]
theorem mi_v_rf (o : Option Nat) : mi_v ad (va_rf o) = va_rf (o.map ad) := by cases o <;> rfl
theorem mi_a_1 (a : vp_A) : (mi_a ad a).1 = a.1 := by
  unfold mi_a
  split <;> rfl
theorem mi_sized {g : JFrame} (hh : H.size ≤ s.heap.size + cells → W p l e R s m args below meth c H locs cells slots Q g) : W p l e R s m args below meth c H locs cells slots Q g :=
  fun T hT X => hh (by rw [← hT]; exact X.heapSize) T hT X
theorem mi_fresh (I : mi_I B ad D cA h s H locs cells) {q : Nat} {E : va_E} (hP : va_P D mt_cl (mi_ws B ad cA h.1 h.2.2 ++ [(q, E)]) H1) (hD : va_D (fun q => B ≤ q) (mi_ws B ad cA h.1 h.2.2 ++ [(q, E)])) (hsz : H1.size ≤ s.heap.size + (cells + 1)) : q = B + h.1 := by
  have hl : (mi_ws B ad cA h.1 h.2.2).length = h.1 := by simp [mi_ws]
  have hg : (mi_ws B ad cA h.1 h.2.2 ++ [(q, E)])[h.1]? = some (q, E) := by
    rw [List.getElem?_append_right (by rw [hl]; exact Nat.le_refl _), hl]
    simp
  have h1 : q < H1.size := (hP _ _ hg).lt
  have h2 : B ≤ q := hD.2 _ _ hg
  have h3 := I.sz
  rcases Nat.lt_or_ge q (B + h.1) with h4 | h4
  · exfalso
    have h5 : q - B < h.1 := by omega
    have h6 : (mi_ws B ad cA h.1 h.2.2 ++ [(q, E)])[q - B]? = some (B + (q - B), mi_c ad cA (h.2.2 (q - B))) := by
      rw [List.getElem?_append_left (by rw [hl]; exact h5), mi_ws_get h5]
    have h7 := hD.1 _ _ _ _ h6 hg (by show B + (q - B) = q; omega)
    omega
  · omega
theorem mi_recv (I : mi_I B ad D cA h s H locs cells) {q ci : Nat} {fs : List Value} (hq : q < h.1) (hc : h.2.2 q = .inr (ci, fs)) : ∃ cell : Cell, H[B + q]? = some cell ∧ cell.vm.isStatics = false ∧ s.vm.findClass (mt_cn ci) = some cell.cls := by
  have he : (mi_ws B ad cA h.1 h.2.2)[q]? = some (B + q, .inr (ci, fs.map (mi_v ad))) := (mi_ws_get hq).trans (by rw [hc]; rfl)
  obtain ⟨r, h1, -⟩ := I.P q _ he
  rw [← mt_cn_ok h1]
  exact va_recv I.K I.P h1 he
theorem mi_recv2 (I : mi_I B ad D cA h s H locs cells) {q ci : Nat} {fs : List Value} (hq : q < h.1 ∨ (mi_SC < q ∧ (q - mi_SC - 1) / 2 < mt_ns)) (hc : h.2.2 q = .inr (ci, fs)) : ∃ cell : Cell, H[ad q]? = some cell ∧ cell.vm.isStatics = false ∧ s.vm.findClass (mt_cn ci) = some cell.cls := by
  rcases hq with hq | hq
  · rw [I.1 q (Nat.lt_of_lt_of_le hq I.lt)]
    exact mi_recv I hq hc
  · obtain ⟨-, L, xs, h1, -⟩ := I.fo.1
    rw [h1 q (Nat.le_of_lt hq.1)] at hc
    unfold mi_fo at hc
    rw [if_neg (Nat.ne_of_gt hq.1)] at hc
    split at hc
    · rename_i he
      cases hc
      have hn : q = mi_SC + 1 + 2 * ((q - mi_SC - 1) / 2) := by omega
      obtain ⟨z1, -⟩ := I.fo.2.1 _ hq.2
      rw [← hn] at z1
      exact va_Orecv z1 I.S
    · cases hc
theorem mi_cats (st : List Value) : ((st.map (mi_v ad)).map fun v => v.category) = st.map fun v => v.category := by
  rw [List.map_map]
  exact List.map_congr_left (fun v _ => mi_v_cat ad v)
theorem mi_q0 {q : Nat} (h : mi_SC < q ∧ (q - mi_SC - 1) % 2 = 0 ∧ (q - mi_SC - 1) / 2 < mt_ns) : ∃ n, q = mi_SC + 1 + 2 * n ∧ n < mt_ns := ⟨(q - mi_SC - 1) / 2, by omega, h.2.2⟩
theorem mi_q1 {q : Nat} (h : mi_SC < q ∧ (q - mi_SC - 1) % 2 = 1 ∧ (q - mi_SC - 1) / 2 < mt_ns) : ∃ n, q = mi_SC + 2 + 2 * n ∧ n < mt_ns ∧ (q - mi_SC - 1) / 2 = n := ⟨(q - mi_SC - 1) / 2, by omega, h.2.2, rfl⟩
theorem mi_same (I : mi_I B ad D cA h s H locs cells) {k : Nat} {c9 : ClassId} (hk : k < mt_na) (hK : va_K D mt_cl (mi_ty cA ++ [(c9, mt_at k)]) s) : c9 = cA k := by
  have hl : (mi_ty cA).length = mt_na := by simp [mi_ty]
  have h1 := (hK.2 mt_na (c9, mt_at k) (by rw [List.getElem?_append_right (by rw [hl]; exact Nat.le_refl _), hl]; simp)).2
  have h2 := (I.K.2 k _ (mi_ty_get hk)).2
  generalize mt_at k = ty at h1 h2
  cases ty with
  | object C =>
    obtain ⟨_, _, _, _, _, z1⟩ := h1
    obtain ⟨_, _, _, _, _, z2⟩ := h2
    exact Option.some.inj (z1.symm.trans z2)
  | _ => exact Option.some.inj (Eq.trans (Eq.symm h1) h2)
theorem mi_any (I : mi_I B ad D cA h s H locs cells) {a : Nat} (hO : va_O "java/lang/String" a (fun q => B ≤ q) s s.heap) : va_Any "java/lang/String" s H a := by
  obtain ⟨cell, h1, h2, h3⟩ := va_Orecv hO I.S
  refine ⟨cell, h1, h2, Vm.classAt_of_findClass h3, fun comp hc => ?_⟩
  cases Option.some.inj (h3.symm.trans hc)
  exact Vm.assignable_self _ _
theorem mi_ldcwS {pc : Nat} {ls : Array Slot} {rest : List Value} (hexec : p.tables.exec = Jvm.exec) (hb : c.code = cc) {own tx : String} {index q : Nat} (hown : s.vm.findClass own = some m.cls) (hZ : vk_R own index tx q s) (hdg : decode cc pc = .ok (.ldc_w index, 3)) (k : W p l e R s m args below meth c H locs cells slots Q (F0 m (pc + 3) ls (.ref q :: rest))) : W p l e R s m args below meth c H locs cells slots Q (F0 m pc ls rest) := by
  intro T hT X
  obtain ⟨t, a1, b1⟩ := k T hT X
  refine ⟨t, ?_, b1⟩
  obtain ⟨kc, cf, i, a', hk, hcf, hcp, -, hr, hev⟩ := Cond.stringRef_spec hown hZ.1
  cases hZ.2.symm.trans hev
  obtain ⟨k', hk', he⟩ := X.warmed.alike.2.2 _ _ hk
  have hr' : k'.resolved[index]? = some (some (.string q)) := by
    rcases X.warmed.entry hk hk' index with z | ⟨z, -⟩
    · rw [z]; exact hr
    · rw [hr] at z; cases z
  jvm_step X.here [hexec, hb, hdg, ldc_w.wp_string (e := e) (s := T) (f := F0 m pc ls rest) X.here.top hk' (by rw [he]; exact hcf) hcp hr']
  exact a1
theorem mi_rm.cell (rm : mi_rm d h R cells slots) (hg : h.1 + 1 ≤ mi_NC) : cells + 1 ≤ R.cells := by
  have := rm.2.2.1
  omega
theorem mi_rm.slot (rm : mi_rm d h R cells slots) {k : Nat} (hg : h.2.1 + k ≤ mi_NS) : slots + k ≤ R.slots := by
  have := rm.2.2.2
  omega
theorem mi_rm.push (rm : mi_rm d h R cells slots) {k : Nat} {f : Nat → mi_C} (hg : h.1 + 1 ≤ mi_NC) (hg2 : h.2.1 + k ≤ mi_NS) : mi_rm d (h.1 + 1, h.2.1 + k, f) R (cells + 1) (slots + k) := by
  obtain ⟨h1, h2, h3, h4⟩ := rm
  refine ⟨h1, h2, ?_, ?_⟩
  · show cells + 1 + (mi_NC - (h.1 + 1)) ≤ R.cells
    omega
  · show slots + k + (mi_NS - (h.2.1 + k)) ≤ R.slots
    omega
theorem mi_Kx.own (K : mi_Kx y cc p s m meth c nL) : s.vm.findClass (mt_cn (mt_oc y)) = some m.cls := K.2.2.1
theorem mi_Kx.init (K : mi_Kx y cc p s m meth c nL) {ci : Nat} (hi : mt_in y ci = true) {C : String} {T : u_T} {N : Nat} (hcl : mt_cl[ci]? = some (C, T, N)) (k : Nat) (hk : k < N) : meth.name = "<init>" ∧ (T k).1 = mt_cn (mt_oc y) := by
  unfold mt_in at hi
  rw [Bool.and_eq_true, beq_iff_eq] at hi
  exact ⟨K.2.2.2.2.1 hi.1, by rw [hi.2]; exact mt_own hcl k hk⟩
end
