/-! THE SMALL MACHINE: places are numbers; place p stands for the cell B + p of the heap. Cells, values, locals. -/
def mi_SC : Nat := 1099511627776
abbrev mi_C : Type := (Nat × vp_A) ⊕ (Nat × List Value)
abbrev mi_H : Type := Nat × Nat × (Nat → mi_C)
abbrev mi_L : Type := List (Option Value)
def mi_v (ad : Nat → Nat) (v : Value) : Value := match v with
  | .ref p => .ref (ad p)
  | .retAddr k => match ad (2199023255552 + k) with
    | 0 => .null
    | n + 1 => .ref n
  | w => w
def mi_a (ad : Nat → Nat) (a : vp_A) : vp_A := match a.2 with
  | .inr (.inr (.inr (.inr f))) => (a.1, .inr (.inr (.inr (.inr (fun j => (f j).map ad)))))
  | _ => a
def mi_c (ad : Nat → Nat) (cA : Nat → ClassId) (c : mi_C) : va_E := match c with
  | .inl x => .inl (cA x.1, mi_a ad x.2)
  | .inr x => .inr (x.1, x.2.map (mi_v ad))
def mi_ws (B : Nat) (ad : Nat → Nat) (cA : Nat → ClassId) (n : Nat) (f : Nat → mi_C) : va_W := (List.range n).map (fun p => (B + p, mi_c ad cA (f p)))
theorem mi_ws_get {B : Nat} {ad : Nat → Nat} {cA : Nat → ClassId} {n : Nat} {f : Nat → mi_C} {p : Nat} (h : p < n) : (mi_ws B ad cA n f)[p]? = some (B + p, mi_c ad cA (f p)) := by
  simp [mi_ws, h]
theorem mi_ws_none {B : Nat} {ad : Nat → Nat} {cA : Nat → ClassId} {n : Nat} {f : Nat → mi_C} {p : Nat} (h : n ≤ p) : (mi_ws B ad cA n f)[p]? = none := by
  simp [mi_ws, h]
theorem mi_ws_set {B : Nat} {ad : Nat → Nat} {cA : Nat → ClassId} {n : Nat} {f : Nat → mi_C} {p : Nat} {c : mi_C} (h : p < n) : (mi_ws B ad cA n f).set p (B + p, mi_c ad cA c) = mi_ws B ad cA n (va_up f p c) := by
  apply List.ext_getElem?
  intro i
  rw [List.getElem?_set]
  by_cases hi : i < n
  · rw [mi_ws_get hi]
    by_cases e : p = i
    · subst e
      simp [mi_ws, h, va_up]
    · rw [if_neg e, mi_ws_get hi]
      simp [va_up, Ne.symm e]
  · rw [mi_ws_none (Nat.le_of_not_lt hi)]
    have e : ¬ p = i := fun e => hi (e ▸ h)
    rw [if_neg e, mi_ws_none (Nat.le_of_not_lt hi)]
theorem mi_ws_push {B : Nat} {ad : Nat → Nat} {cA : Nat → ClassId} {n : Nat} {f : Nat → mi_C} {c : mi_C} : mi_ws B ad cA n f ++ [(B + n, mi_c ad cA c)] = mi_ws B ad cA (n + 1) (va_up f n c) := by
  apply List.ext_getElem?
  intro i
  have hl : (mi_ws B ad cA n f).length = n := by simp [mi_ws]
  rcases Nat.lt_trichotomy i n with h | h | h
  · rw [List.getElem?_append_left (by rw [hl]; exact h), mi_ws_get h, mi_ws_get (Nat.lt_succ_of_lt h)]
    simp [va_up, Nat.ne_of_lt h]
  · subst h
    rw [List.getElem?_append_right (by rw [hl]; exact Nat.le_refl _), mi_ws_get (Nat.lt_succ_self _), hl]
    simp [va_up]
  · rw [List.getElem?_append_right (by rw [hl]; exact Nat.le_of_lt h), mi_ws_none h, hl]
    have : 0 < i - n := Nat.sub_pos_of_lt h
    cases e : i - n with
    | zero => rw [e] at this; exact absurd this (Nat.lt_irrefl _)
    | succ k => simp
theorem mi_ws_at {B : Nat} {ad : Nat → Nat} {cA : Nat → ClassId} {n : Nat} {f : Nat → mi_C} {k : Nat} {q : Nat × va_E} (h : (mi_ws B ad cA n f)[k]? = some q) : k < n ∧ q = (B + k, mi_c ad cA (f k)) := by
  by_cases hk : k < n
  · rw [mi_ws_get hk] at h
    exact ⟨hk, (Option.some.inj h).symm⟩
  · rw [mi_ws_none (Nat.le_of_not_lt hk)] at h
    cases h
theorem mi_ws_D {B : Nat} {ad : Nat → Nat} {cA : Nat → ClassId} {n : Nat} {f : Nat → mi_C} : va_D (fun q => B ≤ q) (mi_ws B ad cA n f) := by
  refine ⟨fun i j p q hp hq e => ?_, fun k q hk => ?_⟩
  · obtain ⟨-, rfl⟩ := mi_ws_at hp
    obtain ⟨-, rfl⟩ := mi_ws_at hq
    exact Nat.add_left_cancel e
  · obtain ⟨-, rfl⟩ := mi_ws_at hk
    exact Nat.le_add_right _ _
/-! locals -/
def mi_g (ls : mi_L) (i : Nat) : Option Value := match ls[i]? with
  | some v => v
  | none => none
def mi_k (ls : mi_L) (i : Nat) : mi_L := match i with
  | 0 => ls
  | j + 1 => match mi_g ls j with
    | some (.long _) => ls.set j none
    | some (.double _) => ls.set j none
    | _ => ls
def mi_s1 (ls : mi_L) (i : Nat) (v : Value) : mi_L := (mi_k ls i).set i (some v)
def mi_s2 (ls : mi_L) (i : Nat) (v : Value) : mi_L := ((mi_k ls i).set (i + 1) none).set i (some v)
def mi_LR (ad : Nat → Nat) (nL : Nat) (ls : mi_L) (lsR : Array Slot) : Prop := ls.length = nL ∧ lsR.size = nL ∧ lv_wf lsR ∧ ∀ (i : Nat) (v : Value), mi_g ls i = some v → lsR[i]? = some (.val (mi_v ad v))
def mi_pr (ad : Nat → Nat) (ls : mi_L) : List (Nat × Value) := (List.range ls.length).filterMap (fun i => (mi_g ls i).map (fun v => (i, mi_v ad v)))
theorem mi_g_lt {ls : mi_L} {i : Nat} {v : Value} (h : mi_g ls i = some v) : i < ls.length := by
  unfold mi_g at h
  cases e : ls[i]? with
  | none => rw [e] at h; cases h
  | some x => exact (List.getElem?_eq_some_iff.mp e).1
theorem mi_pr_mem {ad : Nat → Nat} {ls : mi_L} {i : Nat} {v : Value} (h : mi_g ls i = some v) : (i, mi_v ad v) ∈ mi_pr ad ls := by
  refine List.mem_filterMap.mpr ⟨i, List.mem_range.mpr (mi_g_lt h), ?_⟩
  rw [h]
  rfl
theorem mi_pr_of {ad : Nat → Nat} {ls : mi_L} {q : Nat × Value} (h : q ∈ mi_pr ad ls) : ∃ v, mi_g ls q.1 = some v ∧ q.2 = mi_v ad v := by
  obtain ⟨i, -, hi⟩ := List.mem_filterMap.mp h
  cases e : mi_g ls i with
  | none => rw [e] at hi; cases hi
  | some v =>
    rw [e] at hi
    cases hi
    exact ⟨v, e, rfl⟩
theorem mi_LR.has {ad : Nat → Nat} {nL : Nat} {ls : mi_L} {lsR : Array Slot} (h : mi_LR ad nL ls lsR) : lv_has lsR nL (mi_pr ad ls) := by
  refine ⟨h.2.1, h.2.2.1, fun q hq => ?_⟩
  obtain ⟨v, h1, h2⟩ := mi_pr_of hq
  rw [h2]
  exact h.2.2.2 _ _ h1
theorem mi_LR.at {ad : Nat → Nat} {nL : Nat} {ls : mi_L} {lsR : Array Slot} (h : mi_LR ad nL ls lsR) {i : Nat} {v : Value} (hg : mi_g ls i = some v) : lsR[i]? = some (.val (mi_v ad v)) := h.2.2.2 _ _ hg
theorem mi_k_len (ls : mi_L) (i : Nat) : (mi_k ls i).length = ls.length := by
  unfold mi_k
  cases i with
  | zero => rfl
  | succ j => dsimp only; split <;> simp
theorem mi_v_cat (ad : Nat → Nat) (v : Value) : (mi_v ad v).category = v.category := by
  cases v with
  | retAddr k =>
    unfold mi_v
    dsimp only
    split <;> rfl
  | _ => rfl
theorem mi_k_get {ls : mi_L} {i j : Nat} {w : Value} (h : mi_g (mi_k ls i) j = some w) : mi_g ls j = some w ∧ ¬ (j + 1 = i ∧ w.category = 2) := by
  unfold mi_k at h
  cases i with
  | zero => exact ⟨h, fun q => by omega⟩
  | succ k =>
    dsimp only at h
    have key : mi_g (ls.set k none) j = some w → mi_g ls j = some w ∧ ¬ (j + 1 = k + 1 ∧ w.category = 2) := by
      intro h
      unfold mi_g at h ⊢
      rw [List.getElem?_set] at h
      by_cases e : k = j
      · subst e
        by_cases hl : k < ls.length
        · simp [hl] at h
        · simp [hl] at h
      · rw [if_neg e] at h
        exact ⟨h, fun q => e (by omega)⟩
    split at h
    · exact key h
    · exact key h
    · rename_i h1 h2
      refine ⟨h, fun q => ?_⟩
      have e : j = k := by omega
      subst e
      cases w with
      | long x => exact h1 x h
      | double x => exact h2 x h
      | int x => exact absurd q.2 (by simp [Value.category])
      | float x => exact absurd q.2 (by simp [Value.category])
      | null => exact absurd q.2 (by simp [Value.category])
      | ref x => exact absurd q.2 (by simp [Value.category])
      | retAddr x => exact absurd q.2 (by simp [Value.category])
theorem mi_LR.st1 {ad : Nat → Nat} {nL : Nat} {ls : mi_L} {lsR : Array Slot} {i : Nat} {v : Value} (hn : ls.length = nL) (hl : lv_has lsR nL ((i, mi_v ad v) :: (mi_pr ad ls).filter (fun q => !(q.1 == i) && !(q.1 + 1 == i && q.2.category == 2)))) : mi_LR ad nL (mi_s1 ls i v) lsR := by
  refine ⟨by rw [← hn]; simp [mi_s1, mi_k_len], hl.1, hl.2.1, fun j w hj => ?_⟩
  refine hl.2.2 (j, mi_v ad w) ?_
  by_cases e : j = i
  · subst e
    unfold mi_g mi_s1 at hj
    rw [List.getElem?_set] at hj
    by_cases hlt : j < (mi_k ls j).length
    · simp [hlt] at hj
      subst hj
      exact List.mem_cons_self
    · simp [hlt] at hj
  · have hj' : mi_g (mi_k ls i) j = some w := by
      unfold mi_g mi_s1 at hj
      rw [List.getElem?_set, if_neg (Ne.symm e)] at hj
      exact hj
    obtain ⟨h1, h2⟩ := mi_k_get hj'
    refine List.mem_cons_of_mem _ (List.mem_filter.mpr ⟨mi_pr_mem h1, ?_⟩)
    have e1 : (j == i) = false := by simpa using e
    have e2 : (j + 1 == i && w.category == 2) = false := by
      rw [Bool.and_eq_false_iff]
      by_cases q : j + 1 = i
      · exact Or.inr (by simpa using fun z => h2 ⟨q, z⟩)
      · exact Or.inl (by simpa using q)
    show (!(j == i) && !(j + 1 == i && (mi_v ad w).category == 2)) = true
    rw [mi_v_cat, e1, e2]
    rfl
theorem mi_LR.st2 {ad : Nat → Nat} {nL : Nat} {ls : mi_L} {lsR : Array Slot} {i : Nat} {v : Value} (hn : ls.length = nL) (hl : lv_has lsR nL ((i, mi_v ad v) :: (mi_pr ad ls).filter (fun q => !(q.1 == i) && (!(q.1 == i + 1) && !(q.1 + 1 == i && q.2.category == 2))))) : mi_LR ad nL (mi_s2 ls i v) lsR := by
  refine ⟨by rw [← hn]; simp [mi_s2, mi_k_len], hl.1, hl.2.1, fun j w hj => ?_⟩
  refine hl.2.2 (j, mi_v ad w) ?_
  by_cases e : j = i
  · subst e
    unfold mi_g mi_s2 at hj
    rw [List.getElem?_set] at hj
    by_cases hlt : j < (mi_k ls j).length
    · simp [hlt] at hj
      subst hj
      exact List.mem_cons_self
    · simp [hlt] at hj
  · have hj0 : mi_g ((mi_k ls i).set (i + 1) none) j = some w := by
      unfold mi_g mi_s2 at hj
      rw [List.getElem?_set, if_neg (Ne.symm e)] at hj
      exact hj
    have e' : ¬ j = i + 1 := by
      intro q
      subst q
      unfold mi_g at hj0
      rw [List.getElem?_set] at hj0
      by_cases hlt : i + 1 < (mi_k ls i).length
      · simp [hlt] at hj0
      · simp [hlt] at hj0
    have hj' : mi_g (mi_k ls i) j = some w := by
      unfold mi_g at hj0 ⊢
      rw [List.getElem?_set, if_neg (Ne.symm e')] at hj0
      exact hj0
    obtain ⟨h1, h2⟩ := mi_k_get hj'
    refine List.mem_cons_of_mem _ (List.mem_filter.mpr ⟨mi_pr_mem h1, ?_⟩)
    have e1 : (j == i) = false := by simpa using e
    have e3 : (j == i + 1) = false := by simpa using e'
    have e2 : (j + 1 == i && w.category == 2) = false := by
      rw [Bool.and_eq_false_iff]
      by_cases q : j + 1 = i
      · exact Or.inr (by simpa using fun z => h2 ⟨q, z⟩)
      · exact Or.inl (by simpa using q)
    show (!(j == i) && (!(j == i + 1) && !(j + 1 == i && (mi_v ad w).category == 2))) = true
    rw [mi_v_cat, e1, e2, e3]
    rfl
/-- what a field of this type takes as it is -/
def mi_fk (ty : FieldType) (v : Value) : Bool := match ty, v with
  | .int, .int _ => true
  | .long, .long _ => true
  | .boolean, .int x => x == 0 || x == 1
  | .object _, .ref _ => true
  | .object _, .null => true
  | .array _, .ref _ => true
  | .array _, .null => true
  | _, _ => false
theorem mi_fk_ok (ad : Nat → Nat) {ty : FieldType} {v : Value} (h : mi_fk ty v = true) : narrow ty (mi_v ad v) = mi_v ad v ∧ fits ty (mi_v ad v) = true := by
  unfold mi_fk at h
  split at h
  · exact ⟨rfl, rfl⟩
  · exact ⟨rfl, rfl⟩
  · rename_i x
    have h' : x = 0 ∨ x = 1 := by simpa using h
    rcases h' with rfl | rfl
    · exact ⟨rfl, rfl⟩
    · exact ⟨rfl, rfl⟩
  · exact ⟨rfl, rfl⟩
  · exact ⟨rfl, rfl⟩
  · exact ⟨rfl, rfl⟩
  · exact ⟨rfl, rfl⟩
  · cases h
def mi_j (pc : Nat) (off : Int) : Option Nat := if (pc : Int) + off = ((((pc : Int) + off).toNat : Nat) : Int) then some (((pc : Int) + off).toNat) else none
theorem mi_j_ok {pc : Nat} {off : Int} {t : Nat} (h : mi_j pc off = some t) : (pc : Int) + off = (t : Int) := by
  unfold mi_j at h
  split at h
  · cases h
    assumption
  · cases h
