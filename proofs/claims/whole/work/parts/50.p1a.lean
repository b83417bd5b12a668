/-! ONE CALL ON FRESH OBJECTS. The constructors' run, by the kernel; what lies where then -/
theorem mi_W.of_x {c : mi_C} {n d d' y pc : Nat} {ls : mi_L} {st : List Value} {h h' : mi_H} {o : Option Value ⊕ Nat} {Q : (Option Value ⊕ Nat) → mi_H → Prop} (hd : d ≤ d') (hh : mi_hid h) (hr : mi_x n d y pc ls st h = some (o, h')) (hq : mi_hid h' → Q o (mi_ov c h')) : mi_W d' y pc ls st (mi_ov c h) Q := by
  obtain ⟨e1, e2⟩ := mi_x_ov (c := c) n d y pc ls st h o h' hh hr
  exact ⟨n, o, mi_ov c h', mi_x_up _ _ _ _ _ _ _ _ e1 _ _ (Nat.le_refl _) hd, hq e2⟩
def mi_tq (y pc idx : Nat) : Option Nat := match mt_c (mt_oc y) idx with
  | some ce => match mt_cd y (pc + 3), mt_cd y (pc + 4) with
    | some .dup, some (.ldc k) => if (mt_s (mt_oc y) k).isSome = true ∧ mi_tx y (pc + 6) ce = true then some ce else none
    | some .dup, some (.ldc_w k) => if (mt_s (mt_oc y) k).isSome = true ∧ mi_tx y (pc + 7) ce = true then some ce else none
    | _, _ => none
  | none => none
theorem mi_tq_ok {y pc idx ce n sl : Nat} {f : Nat → mi_C} (h : mi_tq y pc idx = some ce) (hn : n < 601024) (hs : sl + 6 ≤ 7293034) : mi_t y pc (.new idx) [] (n, sl, f) = some (n + 1, sl + 6, va_up f n (.inr (ce, []))) := by
  unfold mi_tq at h
  simp only [mi_t]
  have hn' : n + 1 ≤ mi_NC := hn
  have hs' : sl + 6 ≤ mi_NS := hs
  split at h
  · rename_i ce' hc
    split at h
    · rename_i k h1 h2
      split at h
      · rename_i hg
        cases h
        simp only [hc, h1, h2]
        rw [if_pos ⟨hg.1, hg.2, by decide, hn', hs'⟩]
      · cases h
    · rename_i k h1 h2
      split at h
      · rename_i hg
        cases h
        simp only [hc, h1, h2]
        rw [if_pos ⟨hg.1, hg.2, by decide, hn', hs'⟩]
      · cases h
    · cases h
  · cases h
section
variable {d n sl : Nat} {f : Nat → mi_C} {h : mi_H} {Q : (Option Value ⊕ Nat) → mi_H → Prop}
/-! small numbers -/
theorem lg_lt {x y : Int64} : lg_cmp x y < 0 ↔ x < y := by
  unfold lg_cmp
  by_cases h1 : x > y
  · rw [if_pos h1]
    exact ⟨fun h => absurd h (by decide), fun h => absurd h (Int64.lt_asymm h1)⟩
  · rw [if_neg h1]
    by_cases h2 : x = y
    · rw [if_pos h2]
      subst h2
      exact ⟨fun h => absurd h (by decide), fun h => absurd h (Int64.lt_irrefl)⟩
    · rw [if_neg h2]
      exact ⟨fun _ => Int64.lt_of_le_of_ne (Int64.not_lt.mp h1) h2, fun _ => by decide⟩
theorem lg_gt {x y : Int64} : 0 < lg_cmp x y ↔ y < x := by
  unfold lg_cmp
  by_cases h1 : x > y
  · rw [if_pos h1]
    exact ⟨fun _ => h1, fun _ => by decide⟩
  · rw [if_neg h1]
    refine ⟨fun h => ?_, fun h => absurd h h1⟩
    split at h <;> exact absurd h (by decide)
theorem lg_le {x y : Int64} : lg_cmp x y ≤ 0 ↔ x ≤ y := by
  rw [← Int32.not_lt, lg_gt, Int64.not_lt]
theorem lg_eq (x : Int64) : lg_cmp x x = 0 := by
  unfold lg_cmp
  rw [if_neg Int64.lt_irrefl, if_pos rfl]
def mp_r (p a b : Int32) : Prop := ¬ p < a ∧ ¬ b < p
theorem mp_r64 {p : Int32} {b : Int32} {b' : Int64} (hb : b'.toInt = b.toInt) : (0 ≤ p.toInt64 ∧ p.toInt64 ≤ b') ↔ mp_r p 0 b := by
  unfold mp_r
  rw [Int32.not_lt, Int32.not_lt, Int64.le_iff_toInt_le, Int64.le_iff_toInt_le, Int32.le_iff_toInt_le, Int32.le_iff_toInt_le, Int32.toInt_toInt64, hb]
  rfl
theorem mp_lt8 {p : Int32} : ¬ 8 ≤ p ↔ ¬ 7 < p := by
  rw [Int32.le_iff_toInt_le, Int32.lt_iff_toInt_lt, show (8 : Int32).toInt = 8 from rfl, show (7 : Int32).toInt = 7 from rfl]
  omega
theorem mp_lt4 {p : Int32} : ¬ 4 ≤ p ↔ ¬ 3 < p := by
  rw [Int32.le_iff_toInt_le, Int32.lt_iff_toInt_lt, show (4 : Int32).toInt = 4 from rfl, show (3 : Int32).toInt = 3 from rfl]
  omega
theorem s_isP {l : Int32} (k1 : mp_r l 0 7 → Q (.inl (some (.int 1))) (n, sl, f)) (k0 : ¬ mp_r l 0 7 → Q (.inl (some (.int 0))) (n, sl, f)) : mi_W d 60 0 (mi_en 1 [.int l]) [] (n, sl, f) Q := by
  refine b_60_0 _ _ _ ?_ ?_
  · intro e
    refine b_60_14 _ _ _ ?_
    refine b_60_15 _ _ _ (by first | assumption | rfl | (exact Or.inl rfl) | (exact Or.inr rfl) | omega | (exact Nat.le_of_ble_eq_true rfl) | decide | (exact ⟨by decide, rfl, by decide⟩)) ?_
    exact k0 (fun r => r.1 e)
  · intro e
    refine b_60_4 _ _ _ ?_ ?_
    · intro e2
      refine b_60_14 _ _ _ ?_
      refine b_60_15 _ _ _ (by first | assumption | rfl | (exact Or.inl rfl) | (exact Or.inr rfl) | omega | (exact Nat.le_of_ble_eq_true rfl) | decide | (exact ⟨by decide, rfl, by decide⟩)) ?_
      exact k0 (fun r => mp_lt8.mpr r.2 e2)
    · intro e2
      refine b_60_10 _ _ _ ?_
      refine b_60_15 _ _ _ (by first | assumption | rfl | (exact Or.inl rfl) | (exact Or.inr rfl) | omega | (exact Nat.le_of_ble_eq_true rfl) | decide | (exact ⟨by decide, rfl, by decide⟩)) ?_
      exact k1 ⟨e, mp_lt8.mp e2⟩
theorem s_isT {l : Int32} (k1 : mp_r l 0 3 → Q (.inl (some (.int 1))) (n, sl, f)) (k0 : ¬ mp_r l 0 3 → Q (.inl (some (.int 0))) (n, sl, f)) : mi_W d 61 0 (mi_en 1 [.int l]) [] (n, sl, f) Q := by
  refine b_61_0 _ _ _ ?_ ?_
  · intro e
    refine b_61_13 _ _ _ ?_
    refine b_61_14 _ _ _ (by first | assumption | rfl | (exact Or.inl rfl) | (exact Or.inr rfl) | omega | (exact Nat.le_of_ble_eq_true rfl) | decide | (exact ⟨by decide, rfl, by decide⟩)) ?_
    exact k0 (fun r => r.1 e)
  · intro e
    refine b_61_4 _ _ _ ?_ ?_
    · intro e2
      refine b_61_13 _ _ _ ?_
      refine b_61_14 _ _ _ (by first | assumption | rfl | (exact Or.inl rfl) | (exact Or.inr rfl) | omega | (exact Nat.le_of_ble_eq_true rfl) | decide | (exact ⟨by decide, rfl, by decide⟩)) ?_
      exact k0 (fun r => mp_lt4.mpr r.2 e2)
    · intro e2
      refine b_61_9 _ _ _ ?_
      refine b_61_14 _ _ _ (by first | assumption | rfl | (exact Or.inl rfl) | (exact Or.inr rfl) | omega | (exact Nat.le_of_ble_eq_true rfl) | decide | (exact ⟨by decide, rfl, by decide⟩)) ?_
      exact k1 ⟨e, mp_lt4.mp e2⟩
theorem s_in {v a b : Int64} (k1 : a ≤ v ∧ v ≤ b → Q (.inl (some (.int 1))) (n, sl, f)) (k0 : ¬ (a ≤ v ∧ v ≤ b) → Q (.inl (some (.int 0))) (n, sl, f)) : mi_W d 142 0 (mi_en 6 [.long v, .long a, .long b]) [] (n, sl, f) Q := by
  refine b_142_0 _ _ _ ?_ ?_
  · intro e
    refine b_142_17 _ _ _ ?_
    refine b_142_18 _ _ _ (by first | assumption | rfl | (exact Or.inl rfl) | (exact Or.inr rfl) | omega | (exact Nat.le_of_ble_eq_true rfl) | decide | (exact ⟨by decide, rfl, by decide⟩)) ?_
    exact k0 (fun r => Int64.not_lt.mpr r.1 (lg_lt.mp e))
  · intro e
    refine b_142_6 _ _ _ ?_ ?_
    · intro e2
      refine b_142_17 _ _ _ ?_
      refine b_142_18 _ _ _ (by first | assumption | rfl | (exact Or.inl rfl) | (exact Or.inr rfl) | omega | (exact Nat.le_of_ble_eq_true rfl) | decide | (exact ⟨by decide, rfl, by decide⟩)) ?_
      exact k0 (fun r => Int64.not_lt.mpr r.2 (lg_gt.mp e2))
    · intro e2
      refine b_142_13 _ _ _ ?_
      refine b_142_18 _ _ _ (by first | assumption | rfl | (exact Or.inl rfl) | (exact Or.inr rfl) | omega | (exact Nat.le_of_ble_eq_true rfl) | decide | (exact ⟨by decide, rfl, by decide⟩)) ?_
      exact k1 ⟨Int64.not_lt.mp (fun z => e (lg_lt.mpr z)), Int64.not_lt.mp (fun z => e2 (lg_gt.mpr z))⟩
theorem s_fails0 {q : Nat} {fs : List Value} {c : Int32} (hf : f q = .inr (12, fs)) (hq : q < n) (h0 : fs[0]? = some (.int 0)) (k : Q (.inl (some (.int 0))) (n, sl, f)) : mi_W d 140 0 (mi_en 3 [.ref q, .int 0, .int c]) [] (n, sl, f) Q := by
  refine b_140_0 _ _ _ ?_ ?_
  · intro _
    refine b_140_16 _ _ _ (by first | assumption | rfl | (exact Or.inl rfl) | (exact Or.inr rfl) | omega | (exact Nat.le_of_ble_eq_true rfl) | decide | (exact ⟨by decide, rfl, by decide⟩)) (by first | assumption | rfl | (exact Or.inl rfl) | (exact Or.inr rfl) | omega | (exact Nat.le_of_ble_eq_true rfl) | decide | (exact ⟨by decide, rfl, by decide⟩)) (by first | assumption | rfl | (exact Or.inl rfl) | (exact Or.inr rfl) | omega | (exact Nat.le_of_ble_eq_true rfl) | decide | (exact ⟨by decide, rfl, by decide⟩)) ?_ ?_
    · intro _
      refine b_140_27 _ _ _ ?_
      refine b_140_28 _ _ _ (by first | assumption | rfl | (exact Or.inl rfl) | (exact Or.inr rfl) | omega | (exact Nat.le_of_ble_eq_true rfl) | decide | (exact ⟨by decide, rfl, by decide⟩)) ?_
      exact k
    · intro e
      exact absurd rfl e
  · intro e
    exact absurd rfl e
theorem s_fails1 {q : Nat} {fs : List Value} {c : Int32} (hf : f q = .inr (12, fs)) (hq : q < n) (h0 : fs[0]? = some (.int 0)) (hc : ¬ c = 0) (k : Q (.inl (some (.int 1))) (n, sl, va_up f q (.inr (12, fs.set 0 (.int c))))) : mi_W d 140 0 (mi_en 3 [.ref q, .int 1, .int c]) [] (n, sl, f) Q := by
  have hl : 0 < fs.length := (List.getElem?_eq_some_iff.mp h0).1
  have hu : va_up f q (.inr (12, fs.set 0 (.int c))) q = .inr (12, fs.set 0 (.int c)) := by simp [va_up]
  have h1 : (fs.set 0 (.int c))[0]? = some (.int c) := by simp [hl]
  refine b_140_0 _ _ _ ?_ ?_
  · intro e
    exact absurd e (by decide)
  · intro _
    refine b_140_4 _ _ _ (by first | assumption | rfl | (exact Or.inl rfl) | (exact Or.inr rfl) | omega | (exact Nat.le_of_ble_eq_true rfl) | decide | (exact ⟨by decide, rfl, by decide⟩)) (by first | assumption | rfl | (exact Or.inl rfl) | (exact Or.inr rfl) | omega | (exact Nat.le_of_ble_eq_true rfl) | decide | (exact ⟨by decide, rfl, by decide⟩)) (by first | assumption | rfl | (exact Or.inl rfl) | (exact Or.inr rfl) | omega | (exact Nat.le_of_ble_eq_true rfl) | decide | (exact ⟨by decide, rfl, by decide⟩)) ?_ ?_
    · intro e
      exact absurd rfl e
    · intro _
      refine b_140_11 _ _ _ (by first | assumption | rfl | (exact Or.inl rfl) | (exact Or.inr rfl) | omega | (exact Nat.le_of_ble_eq_true rfl) | decide | (exact ⟨by decide, rfl, by decide⟩)) (by first | assumption | rfl | (exact Or.inl rfl) | (exact Or.inr rfl) | omega | (exact Nat.le_of_ble_eq_true rfl) | decide | (exact ⟨by decide, rfl, by decide⟩)) (by first | assumption | rfl | (exact Or.inl rfl) | (exact Or.inr rfl) | omega | (exact Nat.le_of_ble_eq_true rfl) | decide | (exact ⟨by decide, rfl, by decide⟩)) ?_
      refine b_140_16 _ _ _ (by first | assumption | rfl | (exact Or.inl rfl) | (exact Or.inr rfl) | omega | (exact Nat.le_of_ble_eq_true rfl) | decide | (exact ⟨by decide, rfl, by decide⟩)) (by first | assumption | rfl | (exact Or.inl rfl) | (exact Or.inr rfl) | omega | (exact Nat.le_of_ble_eq_true rfl) | decide | (exact ⟨by decide, rfl, by decide⟩)) (by first | assumption | rfl | (exact Or.inl rfl) | (exact Or.inr rfl) | omega | (exact Nat.le_of_ble_eq_true rfl) | decide | (exact ⟨by decide, rfl, by decide⟩)) ?_ ?_
      · intro e
        exact absurd e hc
      · intro _
        refine b_140_23 _ _ _ ?_
        refine b_140_28 _ _ _ (by first | assumption | rfl | (exact Or.inl rfl) | (exact Or.inr rfl) | omega | (exact Nat.le_of_ble_eq_true rfl) | decide | (exact ⟨by decide, rfl, by decide⟩)) ?_
        exact k
end
