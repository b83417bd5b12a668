/-! fields as a function -/
def mL (n : Nat) (S : Nat → Value) : List Value := (List.range n).map S
theorem mL_get {n k : Nat} {S : Nat → Value} (h : k < n) : (mL n S)[k]? = some (S k) := by simp [mL, h]
theorem mL_none {n k : Nat} {S : Nat → Value} (h : n ≤ k) : (mL n S)[k]? = none := by simp [mL, h]
theorem mL_len {n : Nat} {S : Nat → Value} : (mL n S).length = n := by simp [mL]
theorem mL_set {n k : Nat} {S : Nat → Value} {v : Value} : (mL n S).set k v = mL n (va_up S k v) := by
  apply List.ext_getElem?
  intro i
  rw [List.getElem?_set]
  by_cases hi : i < n
  · rw [mL_get hi, mL_get hi, mL_len]
    by_cases e : k = i
    · subst e
      simp [va_up, hi]
    · rw [if_neg e]
      simp [va_up, Ne.symm e]
  · have hi' : n ≤ i := Nat.le_of_not_lt hi
    rw [mL_none hi', mL_none hi', mL_len]
    by_cases e : k = i
    · subst e
      simp [hi]
    · rw [if_neg e]
theorem va_up_up {α : Type} {f : Nat → α} {k : Nat} {a b : α} : va_up (va_up f k a) k b = va_up f k b := by
  funext j
  simp only [va_up]
  split <;> rfl
theorem va_ne {α : Type} {f : Nat → α} {k j : Nat} {v : α} (h : ¬ j = k) : va_up f k v j = f j := by simp [va_up, h]
theorem va_eq {α : Type} {f : Nat → α} {k : Nat} {v : α} : va_up f k v k = v := by simp [va_up]
/-! the second object: its fields -/
def mr_kd : List Nat := [0, 0, 0, 0, 0, 506, 507, 508, 0, 0, 0, 1, 509, 510, 511, 512, 513, 514, 515, 516, 517, 0, 0, 0, 0, 0, 0, 0, 518, 519, 520, 521, 522, 523, 524, 525, 526, 527, 528, 529, 530, 531, 537, 2, 1, 1, 0, 0, 0, 543, 544, 545, 546, 547, 548, 549, 550, 0, 0, 0, 551, 552, 553, 554, 555, 0, 0, 556, 557, 558, 559, 560, 561, 0, 0, 0, 562, 563, 564, 565, 566, 567, 568, 569, 570, 571, 572, 573]
def mr_S (X : Nat → Int32) (Y : Nat → Int64) (s : Value) (k : Nat) : Value := match mr_kd.getD k 0 with
  | 0 => .int (X k)
  | 1 => .long (Y k)
  | 2 => s
  | p => .ref p
section
variable {X : Nat → Int32} {Y : Nat → Int64} {s : Value} {k : Nat}
theorem mr_S_int {v : Int32} (h : mr_kd.getD k 0 = 0) : va_up (mr_S X Y s) k (.int v) = mr_S (va_up X k v) Y s := by
  funext j
  by_cases e : j = k
  · subst e
    simp only [va_up, mr_S, h, if_true]
  · simp only [va_up, mr_S, if_neg e]
theorem mr_S_long {v : Int64} (h : mr_kd.getD k 0 = 1) : va_up (mr_S X Y s) k (.long v) = mr_S X (va_up Y k v) s := by
  funext j
  by_cases e : j = k
  · subst e
    simp only [va_up, mr_S, h, if_true]
  · simp only [va_up, mr_S, if_neg e]
theorem mr_kd_s {j : Nat} (e : ¬ j = 43) : ¬ mr_kd.getD j 0 = 2 := by
  by_cases h : j < 88
  · exact (by decide +kernel : ∀ j, j < 88 → ¬ j = 43 → ¬ mr_kd.getD j 0 = 2) j h e
  · rw [List.getD_eq_getElem?_getD, List.getElem?_eq_none (by show 88 ≤ j; omega)]
    decide
theorem mr_S_s {v : Value} : va_up (mr_S X Y s) 43 v = mr_S X Y v := by
  funext j
  by_cases e : j = 43
  · subst e
    rfl
  · simp only [va_up, if_neg e, mr_S]
    split
    · rfl
    · rfl
    · rename_i h
      exact absurd h (mr_kd_s e)
    · rfl
end
