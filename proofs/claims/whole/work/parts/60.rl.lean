/-! fields as a function -/
def mL (n : Nat) (S : Nat → Value) : List Value := (List.range n).map S
theorem mL_get {n k : Nat} {S : Nat → Value} (h : k < n) : (mL n S)[k]? = some (S k) := by simp [mL, h]
theorem mL_none {n k : Nat} {S : Nat → Value} (h : n ≤ k) : (mL n S)[k]? = none := by simp [mL, h]
theorem mL_len {n : Nat} {S : Nat → Value} : (mL n S).length = n := by simp [mL]
theorem mL_set {n k : Nat} {S : Nat → Value} {v : Value} : (mL n S).set k v = mL n (va_up S k v) := by
  apply List.ext_getElem?
  intro i
  rw [List.getElem?_set]
  by_cases hi : i < n
  · rw [mL_get hi, mL_get hi, mL_len]
    by_cases e : k = i
    · subst e
      simp [va_up, hi]
    · rw [if_neg e]
      simp [va_up, Ne.symm e]
  · have hi' : n ≤ i := Nat.le_of_not_lt hi
    rw [mL_none hi', mL_none hi', mL_len]
    by_cases e : k = i
    · subst e
      simp [hi]
    · rw [if_neg e]
theorem va_up_up {α : Type} {f : Nat → α} {k : Nat} {a b : α} : va_up (va_up f k a) k b = va_up f k b := by
  funext j
  simp only [va_up]
  split <;> rfl
theorem va_ne {α : Type} {f : Nat → α} {k j : Nat} {v : α} (h : ¬ j = k) : va_up f k v j = f j := by simp [va_up, h]
theorem va_eq {α : Type} {f : Nat → α} {k : Nat} {v : α} : va_up f k v k = v := by simp [va_up]
/-! the second object: its fields -/
def mr_kd : List Nat := [0, 0, 0, 0, 0, 506, 507, 508, 0, 0, 0, 1, 509, 510, 511, 512, 513, 514, 515, 516, 517, 0, 0, 0, 0, 0, 0, 0, 518, 519, 520, 521, 522, 523, 524, 525, 526, 527, 528, 529, 530, 531, 537, 2, 1, 1, 0, 0, 0, 543, 544, 545, 546, 547, 548, 549, 550, 0, 0, 0, 551, 552, 553, 554, 555, 0, 0, 556, 557, 558, 559, 560, 561, 0, 0, 0, 562, 563, 564, 565, 566, 567, 568, 569, 570, 571, 572, 573]
def mr_S (X : Nat → Int32) (Y : Nat → Int64) (s : Value) (k : Nat) : Value := match k with
  | 5 => .ref 506
  | 6 => .ref 507
  | 7 => .ref 508
  | 11 => .long (Y 11)
  | 12 => .ref 509
  | 13 => .ref 510
  | 14 => .ref 511
  | 15 => .ref 512
  | 16 => .ref 513
  | 17 => .ref 514
  | 18 => .ref 515
  | 19 => .ref 516
  | 20 => .ref 517
  | 28 => .ref 518
  | 29 => .ref 519
  | 30 => .ref 520
  | 31 => .ref 521
  | 32 => .ref 522
  | 33 => .ref 523
  | 34 => .ref 524
  | 35 => .ref 525
  | 36 => .ref 526
  | 37 => .ref 527
  | 38 => .ref 528
  | 39 => .ref 529
  | 40 => .ref 530
  | 41 => .ref 531
  | 42 => .ref 537
  | 43 => s
  | 44 => .long (Y 44)
  | 45 => .long (Y 45)
  | 49 => .ref 543
  | 50 => .ref 544
  | 51 => .ref 545
  | 52 => .ref 546
  | 53 => .ref 547
  | 54 => .ref 548
  | 55 => .ref 549
  | 56 => .ref 550
  | 60 => .ref 551
  | 61 => .ref 552
  | 62 => .ref 553
  | 63 => .ref 554
  | 64 => .ref 555
  | 67 => .ref 556
  | 68 => .ref 557
  | 69 => .ref 558
  | 70 => .ref 559
  | 71 => .ref 560
  | 72 => .ref 561
  | 76 => .ref 562
  | 77 => .ref 563
  | 78 => .ref 564
  | 79 => .ref 565
  | 80 => .ref 566
  | 81 => .ref 567
  | 82 => .ref 568
  | 83 => .ref 569
  | 84 => .ref 570
  | 85 => .ref 571
  | 86 => .ref 572
  | 87 => .ref 573
  | j => .int (X j)
section
variable {X : Nat → Int32} {Y : Nat → Int64} {s : Value} {k : Nat}
theorem mr_S_is {v : Int32} (h : mr_kd.getD k 0 = 0) : mr_S X Y s k = .int (X k) := by
  unfold mr_S
  split <;> first | rfl | (exact absurd h (by decide))
theorem mr_S_int {v : Int32} (h : mr_kd.getD k 0 = 0) : va_up (mr_S X Y s) k (.int v) = mr_S (va_up X k v) Y s := by
  funext j
  by_cases e : j = k
  · subst e
    rw [va_eq, mr_S_is (v := v) h, va_eq]
  · rw [va_ne e]
    unfold mr_S
    split <;> first | rfl | (rw [va_ne e])
theorem mr_S_long {v : Int64} (h : k = 11 ∨ k = 44 ∨ k = 45) : va_up (mr_S X Y s) k (.long v) = mr_S X (va_up Y k v) s := by
  funext j
  by_cases e : j = k
  · subst e
    rw [va_eq]
    rcases h with rfl | rfl | rfl <;> rfl
  · rw [va_ne e]
    unfold mr_S
    split <;> first | rfl | (rw [va_ne e])
theorem mr_S_s {v : Value} : va_up (mr_S X Y s) 43 v = mr_S X Y v := by
  funext j
  by_cases e : j = 43
  · subst e
    rfl
  · rw [va_ne e]
    unfold mr_S
    split <;> first | rfl | (exact absurd rfl e)
end
