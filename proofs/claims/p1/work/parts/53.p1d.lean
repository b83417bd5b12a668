section
variable {d n sl : Nat} {f : Nat → mi_C} {Q : (Option Value ⊕ Nat) → mi_H → Prop}
/-! feed -/
def mp_sc (x : Int32) : List Value := [.ref 2, .int x, .int 0, .int 0, .int 0, .long 0, .int 0]
theorem sc_add1 {a s x : Int32} (hs : ¬ s < 0) (hx : ¬ x < 0 ∧ ¬ 8200 ≤ x) (hn : 575 ≤ n) (q1 : f 1 = .inr (1, mp_sc x)) (q2 : ∃ g, f 2 = .inl (1, 8200, .inl g)) (k : ∀ f', f' 1 = .inr (1, mp_sc (x + 1)) → (∃ g, f' 2 = .inl (1, 8200, .inl g)) → (∀ q, ¬ q = 1 → ¬ q = 2 → f' q = f q) → mi_W d 15 3 [some (.ref 1), some (.int a), some (.int (s + (-8)))] [] (n, sl, f') Q) : mi_W d 15 3 [some (.ref 1), some (.int a), some (.int s)] [] (n, sl, f) Q := by
  obtain ⟨g, q2⟩ := q2
  have hi : ∃ i, mi_ix x 8200 i := by
    refine ⟨_, hx.1, rfl, ?_⟩
    obtain ⟨h1, h2⟩ := hx
    rw [Int32.lt_iff_toInt_lt] at h1
    rw [Int32.le_iff_toInt_le] at h2
    have e1 : (0 : Int32).toInt = 0 := rfl
    have e2 : (8200 : Int32).toInt = 8200 := rfl
    rw [e1] at h1
    rw [e2] at h2
    have : x.toNatClampNeg = x.toInt.toNat := rfl
    omega
  obtain ⟨i, hi⟩ := hi
  refine b_15_3 _ _ _ ?_ ?_
  · intro e
    exact absurd e hs
  · intro _
    refine b_15_7 _ _ _ (by first | assumption | rfl | (exact Or.inl rfl) | (exact Or.inr rfl) | omega | (exact Nat.le_of_ble_eq_true rfl) | decide | (exact ⟨by decide, rfl, by decide⟩)) (by first | assumption | rfl | (exact Or.inl rfl) | (exact Or.inr rfl) | omega | (exact Nat.le_of_ble_eq_true rfl) | decide | (exact ⟨by decide, rfl, by decide⟩)) (by first | assumption | rfl | (exact Or.inl rfl) | (exact Or.inr rfl) | omega | (exact Nat.le_of_ble_eq_true rfl) | decide | (exact ⟨by decide, rfl, by decide⟩)) ?_ ?_
    · intro e
      exact absurd e hx.1
    · intro _
      refine b_15_14 _ _ _ (by first | assumption | rfl | (exact Or.inl rfl) | (exact Or.inr rfl) | omega | (exact Nat.le_of_ble_eq_true rfl) | decide | (exact ⟨by decide, rfl, by decide⟩)) (by first | assumption | rfl | (exact Or.inl rfl) | (exact Or.inr rfl) | omega | (exact Nat.le_of_ble_eq_true rfl) | decide | (exact ⟨by decide, rfl, by decide⟩)) (by first | assumption | rfl | (exact Or.inl rfl) | (exact Or.inr rfl) | omega | (exact Nat.le_of_ble_eq_true rfl) | decide | (exact ⟨by decide, rfl, by decide⟩)) ?_ ?_
      · intro e
        exact absurd e hx.2
      · intro _
        refine b_15_24 _ _ _ _ _ _ (by first | assumption | rfl | (exact Or.inl rfl) | (exact Or.inr rfl) | omega | (exact Nat.le_of_ble_eq_true rfl) | decide | (exact ⟨by decide, rfl, by decide⟩)) (by first | assumption | rfl | (exact Or.inl rfl) | (exact Or.inr rfl) | omega | (exact Nat.le_of_ble_eq_true rfl) | decide | (exact ⟨by decide, rfl, by decide⟩)) (by first | assumption | rfl | (exact Or.inl rfl) | (exact Or.inr rfl) | omega | (exact Nat.le_of_ble_eq_true rfl) | decide | (exact ⟨by decide, rfl, by decide⟩)) (by first | assumption | rfl | (exact Or.inl rfl) | (exact Or.inr rfl) | omega | (exact Nat.le_of_ble_eq_true rfl) | decide | (exact ⟨by decide, rfl, by decide⟩)) (by first | assumption | rfl | (exact Or.inl rfl) | (exact Or.inr rfl) | omega | (exact Nat.le_of_ble_eq_true rfl) | decide | (exact ⟨by decide, rfl, by decide⟩)) (by first | assumption | rfl | (exact Or.inl rfl) | (exact Or.inr rfl) | omega | (exact Nat.le_of_ble_eq_true rfl) | decide | (exact ⟨by decide, rfl, by decide⟩)) (by first | assumption | rfl | (exact Or.inl rfl) | (exact Or.inr rfl) | omega | (exact Nat.le_of_ble_eq_true rfl) | decide | (exact ⟨by decide, rfl, by decide⟩)) (by first | assumption | rfl | (exact Or.inl rfl) | (exact Or.inr rfl) | omega | (exact Nat.le_of_ble_eq_true rfl) | decide | (exact ⟨by decide, rfl, by decide⟩)) (by first | assumption | rfl | (exact Or.inl rfl) | (exact Or.inr rfl) | omega | (exact Nat.le_of_ble_eq_true rfl) | decide | (exact ⟨by decide, rfl, by decide⟩)) (by first | assumption | rfl | (exact Or.inl rfl) | (exact Or.inr rfl) | omega | (exact Nat.le_of_ble_eq_true rfl) | decide | (exact ⟨by decide, rfl, by decide⟩)) (by first | assumption | rfl | (exact Or.inl rfl) | (exact Or.inr rfl) | omega | (exact Nat.le_of_ble_eq_true rfl) | decide | (exact ⟨by decide, rfl, by decide⟩)) (by first | assumption | rfl | (exact Or.inl rfl) | (exact Or.inr rfl) | omega | (exact Nat.le_of_ble_eq_true rfl) | decide | (exact ⟨by decide, rfl, by decide⟩)) (by first | assumption | rfl | (exact Or.inl rfl) | (exact Or.inr rfl) | omega | (exact Nat.le_of_ble_eq_true rfl) | decide | (exact ⟨by decide, rfl, by decide⟩)) (by first | assumption | rfl | (exact Or.inl rfl) | (exact Or.inr rfl) | omega | (exact Nat.le_of_ble_eq_true rfl) | decide | (exact ⟨by decide, rfl, by decide⟩)) (by first | assumption | rfl | (exact Or.inl rfl) | (exact Or.inr rfl) | omega | (exact Nat.le_of_ble_eq_true rfl) | decide | (exact ⟨by decide, rfl, by decide⟩)) ?_
        refine k _ (by simp [va_up, mp_sc]) ⟨_, by simp only [va_up]; rfl⟩ ?_
        intro q h1 h2
        simp only [va_up]
        rw [if_neg h1, if_neg h2]
theorem sc_add4 {a x : Int32} (hx : (¬ x < 0 ∧ ¬ 8200 ≤ x) ∧ (¬ x + 1 < 0 ∧ ¬ 8200 ≤ x + 1) ∧ (¬ x + 1 + 1 < 0 ∧ ¬ 8200 ≤ x + 1 + 1) ∧ (¬ x + 1 + 1 + 1 < 0 ∧ ¬ 8200 ≤ x + 1 + 1 + 1)) (hn : 575 ≤ n) (q1 : f 1 = .inr (1, mp_sc x)) (q2 : ∃ g, f 2 = .inl (1, 8200, .inl g)) (k : ∀ f', f' 1 = .inr (1, mp_sc (x + 1 + 1 + 1 + 1)) → (∃ g, f' 2 = .inl (1, 8200, .inl g)) → (∀ q, ¬ q = 1 → ¬ q = 2 → f' q = f q) → Q (.inl none) (n, sl, f')) : mi_W d 15 0 (mi_en 3 [.ref 1, .int a]) [] (n, sl, f) Q := by
  obtain ⟨x0, x1, x2, x3⟩ := hx
  refine b_15_0 _ _ _ ?_
  refine sc_add1 (by decide) x0 hn q1 q2 (fun f1 a1 b1 c1 => ?_)
  refine sc_add1 (by decide) x1 hn a1 b1 (fun f2 a2 b2 c2 => ?_)
  refine sc_add1 (by decide) x2 hn a2 b2 (fun f3 a3 b3 c3 => ?_)
  refine sc_add1 (by decide) x3 hn a3 b3 (fun f4 a4 b4 c4 => ?_)
  refine b_15_3 _ _ _ ?_ ?_
  · intro _
    refine b_15_53 _ _ _ ?_
    exact k f4 a4 b4 (fun q h1 h2 => by rw [c4 q h1 h2, c3 q h1 h2, c2 q h1 h2, c1 q h1 h2])
  · intro e
    exact absurd (by decide) e
theorem sc_feed {a b c e v : Int32} (hP : mp_P n sl f) (k : ∀ f', (∀ q, 505 ≤ q → f' q = f q) → Q (.inl (some (.int 20))) (n, sl, f')) : mi_W (d + 1) 14 0 (mi_en 6 [.ref 0, .int a, .int b, .int c, .int e, .int v]) [] (n, sl, f) Q := by
  obtain ⟨⟨hn, hn2, hs⟩, hP⟩ := hP
  have q0 : f 0 = .inr (0, [.ref 1, .ref 3, .ref 15, .ref 32, .ref 35, .ref 41, .ref 54, .ref 497, .ref 501, .int 0]) := (hP 0 (by omega)).trans mp_q0
  have q1 : f 1 = .inr (1, [.ref 2, .int 0, .int 0, .int 0, .int 0, .long 0, .int 0]) := (hP 1 (by omega)).trans mp_q1
  obtain ⟨g2, q2⟩ : ∃ g, f 2 = .inl (1, 8200, .inl g) := by
    rw [hP 2 (by omega)]
    exact mp_q2
  refine b_14_0 _ _ _ (by first | assumption | rfl | (exact Or.inl rfl) | (exact Or.inr rfl) | omega | (exact Nat.le_of_ble_eq_true rfl) | decide | (exact ⟨by decide, rfl, by decide⟩)) (by first | assumption | rfl | (exact Or.inl rfl) | (exact Or.inr rfl) | omega | (exact Nat.le_of_ble_eq_true rfl) | decide | (exact ⟨by decide, rfl, by decide⟩)) (by first | assumption | rfl | (exact Or.inl rfl) | (exact Or.inr rfl) | omega | (exact Nat.le_of_ble_eq_true rfl) | decide | (exact ⟨by decide, rfl, by decide⟩)) (by first | assumption | rfl | (exact Or.inl rfl) | (exact Or.inr rfl) | omega | (exact Nat.le_of_ble_eq_true rfl) | decide | (exact ⟨by decide, rfl, by decide⟩)) (by first | assumption | rfl | (exact Or.inl rfl) | (exact Or.inr rfl) | omega | (exact Nat.le_of_ble_eq_true rfl) | decide | (exact ⟨by decide, rfl, by decide⟩)) (by first | assumption | rfl | (exact Or.inl rfl) | (exact Or.inr rfl) | omega | (exact Nat.le_of_ble_eq_true rfl) | decide | (exact ⟨by decide, rfl, by decide⟩)) ?_ ?_
  · intro _
    refine b_14_26 _ _ _ (by first | assumption | rfl | (exact Or.inl rfl) | (exact Or.inr rfl) | omega | (exact Nat.le_of_ble_eq_true rfl) | decide | (exact ⟨by decide, rfl, by decide⟩)) (by first | assumption | rfl | (exact Or.inl rfl) | (exact Or.inr rfl) | omega | (exact Nat.le_of_ble_eq_true rfl) | decide | (exact ⟨by decide, rfl, by decide⟩)) (by first | assumption | rfl | (exact Or.inl rfl) | (exact Or.inr rfl) | omega | (exact Nat.le_of_ble_eq_true rfl) | decide | (exact ⟨by decide, rfl, by decide⟩)) (by first | assumption | rfl | (exact Or.inl rfl) | (exact Or.inr rfl) | omega | (exact Nat.le_of_ble_eq_true rfl) | decide | (exact ⟨by decide, rfl, by decide⟩)) (by first | assumption | rfl | (exact Or.inl rfl) | (exact Or.inr rfl) | omega | (exact Nat.le_of_ble_eq_true rfl) | decide | (exact ⟨by decide, rfl, by decide⟩)) ?_
    refine sc_add4 (x := 0) (by decide) hn q1 ⟨_, q2⟩ (fun f1 a1 b1 c1 => ?_)
    have q0 : f1 0 = _ := (c1 0 (by decide) (by decide)).trans q0
    refine b_14_34 _ _ _ (by first | assumption | rfl | (exact Or.inl rfl) | (exact Or.inr rfl) | omega | (exact Nat.le_of_ble_eq_true rfl) | decide | (exact ⟨by decide, rfl, by decide⟩)) (by first | assumption | rfl | (exact Or.inl rfl) | (exact Or.inr rfl) | omega | (exact Nat.le_of_ble_eq_true rfl) | decide | (exact ⟨by decide, rfl, by decide⟩)) (by first | assumption | rfl | (exact Or.inl rfl) | (exact Or.inr rfl) | omega | (exact Nat.le_of_ble_eq_true rfl) | decide | (exact ⟨by decide, rfl, by decide⟩)) (by first | assumption | rfl | (exact Or.inl rfl) | (exact Or.inr rfl) | omega | (exact Nat.le_of_ble_eq_true rfl) | decide | (exact ⟨by decide, rfl, by decide⟩)) (by first | assumption | rfl | (exact Or.inl rfl) | (exact Or.inr rfl) | omega | (exact Nat.le_of_ble_eq_true rfl) | decide | (exact ⟨by decide, rfl, by decide⟩)) ?_
    refine sc_add4 (by decide) hn a1 b1 (fun f2 a2 b2 c2 => ?_)
    have q0 : f2 0 = _ := (c2 0 (by decide) (by decide)).trans q0
    refine b_14_42 _ _ _ (by first | assumption | rfl | (exact Or.inl rfl) | (exact Or.inr rfl) | omega | (exact Nat.le_of_ble_eq_true rfl) | decide | (exact ⟨by decide, rfl, by decide⟩)) (by first | assumption | rfl | (exact Or.inl rfl) | (exact Or.inr rfl) | omega | (exact Nat.le_of_ble_eq_true rfl) | decide | (exact ⟨by decide, rfl, by decide⟩)) (by first | assumption | rfl | (exact Or.inl rfl) | (exact Or.inr rfl) | omega | (exact Nat.le_of_ble_eq_true rfl) | decide | (exact ⟨by decide, rfl, by decide⟩)) (by first | assumption | rfl | (exact Or.inl rfl) | (exact Or.inr rfl) | omega | (exact Nat.le_of_ble_eq_true rfl) | decide | (exact ⟨by decide, rfl, by decide⟩)) (by first | assumption | rfl | (exact Or.inl rfl) | (exact Or.inr rfl) | omega | (exact Nat.le_of_ble_eq_true rfl) | decide | (exact ⟨by decide, rfl, by decide⟩)) ?_
    refine sc_add4 (by decide) hn a2 b2 (fun f3 a3 b3 c3 => ?_)
    have q0 : f3 0 = _ := (c3 0 (by decide) (by decide)).trans q0
    refine b_14_50 _ _ _ (by first | assumption | rfl | (exact Or.inl rfl) | (exact Or.inr rfl) | omega | (exact Nat.le_of_ble_eq_true rfl) | decide | (exact ⟨by decide, rfl, by decide⟩)) (by first | assumption | rfl | (exact Or.inl rfl) | (exact Or.inr rfl) | omega | (exact Nat.le_of_ble_eq_true rfl) | decide | (exact ⟨by decide, rfl, by decide⟩)) (by first | assumption | rfl | (exact Or.inl rfl) | (exact Or.inr rfl) | omega | (exact Nat.le_of_ble_eq_true rfl) | decide | (exact ⟨by decide, rfl, by decide⟩)) (by first | assumption | rfl | (exact Or.inl rfl) | (exact Or.inr rfl) | omega | (exact Nat.le_of_ble_eq_true rfl) | decide | (exact ⟨by decide, rfl, by decide⟩)) (by first | assumption | rfl | (exact Or.inl rfl) | (exact Or.inr rfl) | omega | (exact Nat.le_of_ble_eq_true rfl) | decide | (exact ⟨by decide, rfl, by decide⟩)) ?_
    refine sc_add4 (by decide) hn a3 b3 (fun f4 a4 b4 c4 => ?_)
    have q0 : f4 0 = _ := (c4 0 (by decide) (by decide)).trans q0
    refine b_14_59 _ _ _ (by first | assumption | rfl | (exact Or.inl rfl) | (exact Or.inr rfl) | omega | (exact Nat.le_of_ble_eq_true rfl) | decide | (exact ⟨by decide, rfl, by decide⟩)) (by first | assumption | rfl | (exact Or.inl rfl) | (exact Or.inr rfl) | omega | (exact Nat.le_of_ble_eq_true rfl) | decide | (exact ⟨by decide, rfl, by decide⟩)) (by first | assumption | rfl | (exact Or.inl rfl) | (exact Or.inr rfl) | omega | (exact Nat.le_of_ble_eq_true rfl) | decide | (exact ⟨by decide, rfl, by decide⟩)) (by first | assumption | rfl | (exact Or.inl rfl) | (exact Or.inr rfl) | omega | (exact Nat.le_of_ble_eq_true rfl) | decide | (exact ⟨by decide, rfl, by decide⟩)) (by first | assumption | rfl | (exact Or.inl rfl) | (exact Or.inr rfl) | omega | (exact Nat.le_of_ble_eq_true rfl) | decide | (exact ⟨by decide, rfl, by decide⟩)) ?_
    refine sc_add4 (by decide) hn a4 b4 (fun f5 a5 b5 c5 => ?_)
    have q0 : f5 0 = _ := (c5 0 (by decide) (by decide)).trans q0
    refine b_14_68 _ _ _ (by first | assumption | rfl | (exact Or.inl rfl) | (exact Or.inr rfl) | omega | (exact Nat.le_of_ble_eq_true rfl) | decide | (exact ⟨by decide, rfl, by decide⟩)) (by first | assumption | rfl | (exact Or.inl rfl) | (exact Or.inr rfl) | omega | (exact Nat.le_of_ble_eq_true rfl) | decide | (exact ⟨by decide, rfl, by decide⟩)) (by first | assumption | rfl | (exact Or.inl rfl) | (exact Or.inr rfl) | omega | (exact Nat.le_of_ble_eq_true rfl) | decide | (exact ⟨by decide, rfl, by decide⟩)) (by first | assumption | rfl | (exact Or.inl rfl) | (exact Or.inr rfl) | omega | (exact Nat.le_of_ble_eq_true rfl) | decide | (exact ⟨by decide, rfl, by decide⟩)) (by first | assumption | rfl | (exact Or.inl rfl) | (exact Or.inr rfl) | omega | (exact Nat.le_of_ble_eq_true rfl) | decide | (exact ⟨by decide, rfl, by decide⟩)) (by first | assumption | rfl | (exact Or.inl rfl) | (exact Or.inr rfl) | omega | (exact Nat.le_of_ble_eq_true rfl) | decide | (exact ⟨by decide, rfl, by decide⟩)) ?_
    refine k f5 (fun q hq => ?_)
    have h1 : ¬ q = 1 := by omega
    have h2 : ¬ q = 2 := by omega
    rw [c5 q h1 h2, c4 q h1 h2, c3 q h1 h2, c2 q h1 h2, c1 q h1 h2]
  · intro e
    exact absurd (by decide) e
/-! end of a number that is not 0 -/
theorem mp_pos {l : Int32} (h0 : ¬ l = 0) (h1 : ¬ l < 0) (h2 : l ≤ 0) : False := h0 (Int32.le_antisymm h2 (Int32.not_lt.mp h1))
theorem sc_end {l : Int32} (hl : ¬ l = 0) (hP : mp_P n sl f) (k : Q (.inr n) (n + 1, sl + 6, va_up f n (.inr (14, [])))) : mi_W d 17 0 (mi_en 2 [.ref 0, .int l]) [] (n, sl, f) Q := by
  obtain ⟨⟨hn, hn2, hs⟩, hP⟩ := hP
  have q0 : f 0 = .inr (0, [.ref 1, .ref 3, .ref 15, .ref 32, .ref 35, .ref 41, .ref 54, .ref 497, .ref 501, .int 0]) := (hP 0 (by omega)).trans mp_q0
  have q1 : f 1 = .inr (1, [.ref 2, .int 0, .int 0, .int 0, .int 0, .long 0, .int 0]) := (hP 1 (by omega)).trans mp_q1
  refine b_17_0 _ _ _ ?_ ?_
  · intro _
    refine b_17_22 _ _ _ (mi_tq_ok (ce := 14) (by decide +kernel) (by omega) (by omega)) ?_
    exact k
  · intro e
    refine b_17_4 _ _ _ ?_ ?_
    · intro _
      refine b_17_22 _ _ _ (mi_tq_ok (ce := 14) (by decide +kernel) (by omega) (by omega)) ?_
      exact k
    · intro _
      refine b_17_11 _ _ _ (by first | assumption | rfl | (exact Or.inl rfl) | (exact Or.inr rfl) | omega | (exact Nat.le_of_ble_eq_true rfl) | decide | (exact ⟨by decide, rfl, by decide⟩)) (by first | assumption | rfl | (exact Or.inl rfl) | (exact Or.inr rfl) | omega | (exact Nat.le_of_ble_eq_true rfl) | decide | (exact ⟨by decide, rfl, by decide⟩)) (by first | assumption | rfl | (exact Or.inl rfl) | (exact Or.inr rfl) | omega | (exact Nat.le_of_ble_eq_true rfl) | decide | (exact ⟨by decide, rfl, by decide⟩)) (by first | assumption | rfl | (exact Or.inl rfl) | (exact Or.inr rfl) | omega | (exact Nat.le_of_ble_eq_true rfl) | decide | (exact ⟨by decide, rfl, by decide⟩)) (by first | assumption | rfl | (exact Or.inl rfl) | (exact Or.inr rfl) | omega | (exact Nat.le_of_ble_eq_true rfl) | decide | (exact ⟨by decide, rfl, by decide⟩)) (by first | assumption | rfl | (exact Or.inl rfl) | (exact Or.inr rfl) | omega | (exact Nat.le_of_ble_eq_true rfl) | decide | (exact ⟨by decide, rfl, by decide⟩)) ?_ ?_
      · intro e2
        exact absurd e2 (fun z => mp_pos hl e z)
      · intro _
        refine b_17_22 _ _ _ (mi_tq_ok (ce := 14) (by decide +kernel) (by omega) (by omega)) ?_
        exact k
/-! inputs -/
theorem sc_room (hP : mp_P n sl f) (k : Q (.inl none) (n, sl, f)) : mi_W d 64 0 (mi_en 1 [.ref 0]) [] (n, sl, f) Q := by
  obtain ⟨⟨hn, hn2, hs⟩, hP⟩ := hP
  have q0 : f 0 = .inr (0, [.ref 1, .ref 3, .ref 15, .ref 32, .ref 35, .ref 41, .ref 54, .ref 497, .ref 501, .int 0]) := (hP 0 (by omega)).trans mp_q0
  have q35 : f 35 = .inr (6, [.ref 36, .ref 37, .ref 38, .ref 39, .ref 40, .int 0]) := (hP 35 (by omega)).trans mp_q35
  refine b_64_0 _ _ _ (by first | assumption | rfl | (exact Or.inl rfl) | (exact Or.inr rfl) | omega | (exact Nat.le_of_ble_eq_true rfl) | decide | (exact ⟨by decide, rfl, by decide⟩)) (by first | assumption | rfl | (exact Or.inl rfl) | (exact Or.inr rfl) | omega | (exact Nat.le_of_ble_eq_true rfl) | decide | (exact ⟨by decide, rfl, by decide⟩)) (by first | assumption | rfl | (exact Or.inl rfl) | (exact Or.inr rfl) | omega | (exact Nat.le_of_ble_eq_true rfl) | decide | (exact ⟨by decide, rfl, by decide⟩)) (by first | assumption | rfl | (exact Or.inl rfl) | (exact Or.inr rfl) | omega | (exact Nat.le_of_ble_eq_true rfl) | decide | (exact ⟨by decide, rfl, by decide⟩)) (by first | assumption | rfl | (exact Or.inl rfl) | (exact Or.inr rfl) | omega | (exact Nat.le_of_ble_eq_true rfl) | decide | (exact ⟨by decide, rfl, by decide⟩)) (by first | assumption | rfl | (exact Or.inl rfl) | (exact Or.inr rfl) | omega | (exact Nat.le_of_ble_eq_true rfl) | decide | (exact ⟨by decide, rfl, by decide⟩)) ?_ ?_
  · intro _
    refine b_64_23 _ _ _ ?_
    exact k
  · intro e
    exact absurd (by decide) e
theorem sc_add {a b c e : Int32} {v : Int64} (hP : mp_P n sl f) (k : ∀ f', (∀ q, 505 ≤ q → f' q = f q) → Q (.inl (some (.int 1))) (n, sl, f')) : mi_W d 65 0 (mi_en 7 [.ref 35, .int a, .int b, .int c, .int e, .long v]) [] (n, sl, f) Q := by
  obtain ⟨⟨hn, hn2, hs⟩, hP⟩ := hP
  have q35 : f 35 = .inr (6, [.ref 36, .ref 37, .ref 38, .ref 39, .ref 40, .int 0]) := (hP 35 (by omega)).trans mp_q35
  obtain ⟨g36, q36⟩ : ∃ g, f 36 = .inl (0, 16, .inl g) := by
    rw [hP 36 (by omega)]
    exact mp_q36
  obtain ⟨g37, q37⟩ : ∃ g, f 37 = .inl (0, 16, .inl g) := by
    rw [hP 37 (by omega)]
    exact mp_q37
  obtain ⟨g38, q38⟩ : ∃ g, f 38 = .inl (0, 16, .inl g) := by
    rw [hP 38 (by omega)]
    exact mp_q38
  obtain ⟨g39, q39⟩ : ∃ g, f 39 = .inl (0, 16, .inl g) := by
    rw [hP 39 (by omega)]
    exact mp_q39
  obtain ⟨g40, q40⟩ : ∃ g, f 40 = .inl (3, 16, .inr (.inl g)) := by
    rw [hP 40 (by omega)]
    exact mp_q40
  refine b_65_0 _ _ _ (by first | assumption | rfl | (exact Or.inl rfl) | (exact Or.inr rfl) | omega | (exact Nat.le_of_ble_eq_true rfl) | decide | (exact ⟨by decide, rfl, by decide⟩)) (by first | assumption | rfl | (exact Or.inl rfl) | (exact Or.inr rfl) | omega | (exact Nat.le_of_ble_eq_true rfl) | decide | (exact ⟨by decide, rfl, by decide⟩)) (by first | assumption | rfl | (exact Or.inl rfl) | (exact Or.inr rfl) | omega | (exact Nat.le_of_ble_eq_true rfl) | decide | (exact ⟨by decide, rfl, by decide⟩)) ?_ ?_
  · intro e
    exact absurd e (by decide)
  · intro _
    refine b_65_7 _ _ _ (by first | assumption | rfl | (exact Or.inl rfl) | (exact Or.inr rfl) | omega | (exact Nat.le_of_ble_eq_true rfl) | decide | (exact ⟨by decide, rfl, by decide⟩)) (by first | assumption | rfl | (exact Or.inl rfl) | (exact Or.inr rfl) | omega | (exact Nat.le_of_ble_eq_true rfl) | decide | (exact ⟨by decide, rfl, by decide⟩)) (by first | assumption | rfl | (exact Or.inl rfl) | (exact Or.inr rfl) | omega | (exact Nat.le_of_ble_eq_true rfl) | decide | (exact ⟨by decide, rfl, by decide⟩)) ?_ ?_
    · intro e
      exact absurd e (by decide)
    · intro _
      refine b_65_16 _ _ _ _ _ _ _ _ _ _ _ _ _ _ _ _ _ _ (by first | assumption | rfl | (exact Or.inl rfl) | (exact Or.inr rfl) | omega | (exact Nat.le_of_ble_eq_true rfl) | decide | (exact ⟨by decide, rfl, by decide⟩)) (by first | assumption | rfl | (exact Or.inl rfl) | (exact Or.inr rfl) | omega | (exact Nat.le_of_ble_eq_true rfl) | decide | (exact ⟨by decide, rfl, by decide⟩)) (by first | assumption | rfl | (exact Or.inl rfl) | (exact Or.inr rfl) | omega | (exact Nat.le_of_ble_eq_true rfl) | decide | (exact ⟨by decide, rfl, by decide⟩)) (by first | assumption | rfl | (exact Or.inl rfl) | (exact Or.inr rfl) | omega | (exact Nat.le_of_ble_eq_true rfl) | decide | (exact ⟨by decide, rfl, by decide⟩)) (by first | assumption | rfl | (exact Or.inl rfl) | (exact Or.inr rfl) | omega | (exact Nat.le_of_ble_eq_true rfl) | decide | (exact ⟨by decide, rfl, by decide⟩)) (by first | assumption | rfl | (exact Or.inl rfl) | (exact Or.inr rfl) | omega | (exact Nat.le_of_ble_eq_true rfl) | decide | (exact ⟨by decide, rfl, by decide⟩)) (by first | assumption | rfl | (exact Or.inl rfl) | (exact Or.inr rfl) | omega | (exact Nat.le_of_ble_eq_true rfl) | decide | (exact ⟨by decide, rfl, by decide⟩)) (by first | assumption | rfl | (exact Or.inl rfl) | (exact Or.inr rfl) | omega | (exact Nat.le_of_ble_eq_true rfl) | decide | (exact ⟨by decide, rfl, by decide⟩)) (by first | assumption | rfl | (exact Or.inl rfl) | (exact Or.inr rfl) | omega | (exact Nat.le_of_ble_eq_true rfl) | decide | (exact ⟨by decide, rfl, by decide⟩)) (by first | assumption | rfl | (exact Or.inl rfl) | (exact Or.inr rfl) | omega | (exact Nat.le_of_ble_eq_true rfl) | decide | (exact ⟨by decide, rfl, by decide⟩)) (by first | assumption | rfl | (exact Or.inl rfl) | (exact Or.inr rfl) | omega | (exact Nat.le_of_ble_eq_true rfl) | decide | (exact ⟨by decide, rfl, by decide⟩)) (by first | assumption | rfl | (exact Or.inl rfl) | (exact Or.inr rfl) | omega | (exact Nat.le_of_ble_eq_true rfl) | decide | (exact ⟨by decide, rfl, by decide⟩)) (by first | assumption | rfl | (exact Or.inl rfl) | (exact Or.inr rfl) | omega | (exact Nat.le_of_ble_eq_true rfl) | decide | (exact ⟨by decide, rfl, by decide⟩)) (by first | assumption | rfl | (exact Or.inl rfl) | (exact Or.inr rfl) | omega | (exact Nat.le_of_ble_eq_true rfl) | decide | (exact ⟨by decide, rfl, by decide⟩)) (by first | assumption | rfl | (exact Or.inl rfl) | (exact Or.inr rfl) | omega | (exact Nat.le_of_ble_eq_true rfl) | decide | (exact ⟨by decide, rfl, by decide⟩)) (by first | assumption | rfl | (exact Or.inl rfl) | (exact Or.inr rfl) | omega | (exact Nat.le_of_ble_eq_true rfl) | decide | (exact ⟨by decide, rfl, by decide⟩)) (by first | assumption | rfl | (exact Or.inl rfl) | (exact Or.inr rfl) | omega | (exact Nat.le_of_ble_eq_true rfl) | decide | (exact ⟨by decide, rfl, by decide⟩)) (by first | assumption | rfl | (exact Or.inl rfl) | (exact Or.inr rfl) | omega | (exact Nat.le_of_ble_eq_true rfl) | decide | (exact ⟨by decide, rfl, by decide⟩)) (by first | assumption | rfl | (exact Or.inl rfl) | (exact Or.inr rfl) | omega | (exact Nat.le_of_ble_eq_true rfl) | decide | (exact ⟨by decide, rfl, by decide⟩)) (by first | assumption | rfl | (exact Or.inl rfl) | (exact Or.inr rfl) | omega | (exact Nat.le_of_ble_eq_true rfl) | decide | (exact ⟨by decide, rfl, by decide⟩)) (by first | assumption | rfl | (exact Or.inl rfl) | (exact Or.inr rfl) | omega | (exact Nat.le_of_ble_eq_true rfl) | decide | (exact ⟨by decide, rfl, by decide⟩)) (by first | assumption | rfl | (exact Or.inl rfl) | (exact Or.inr rfl) | omega | (exact Nat.le_of_ble_eq_true rfl) | decide | (exact ⟨by decide, rfl, by decide⟩)) (by first | assumption | rfl | (exact Or.inl rfl) | (exact Or.inr rfl) | omega | (exact Nat.le_of_ble_eq_true rfl) | decide | (exact ⟨by decide, rfl, by decide⟩)) (by first | assumption | rfl | (exact Or.inl rfl) | (exact Or.inr rfl) | omega | (exact Nat.le_of_ble_eq_true rfl) | decide | (exact ⟨by decide, rfl, by decide⟩)) (by first | assumption | rfl | (exact Or.inl rfl) | (exact Or.inr rfl) | omega | (exact Nat.le_of_ble_eq_true rfl) | decide | (exact ⟨by decide, rfl, by decide⟩)) (by first | assumption | rfl | (exact Or.inl rfl) | (exact Or.inr rfl) | omega | (exact Nat.le_of_ble_eq_true rfl) | decide | (exact ⟨by decide, rfl, by decide⟩)) (by first | assumption | rfl | (exact Or.inl rfl) | (exact Or.inr rfl) | omega | (exact Nat.le_of_ble_eq_true rfl) | decide | (exact ⟨by decide, rfl, by decide⟩)) (by first | assumption | rfl | (exact Or.inl rfl) | (exact Or.inr rfl) | omega | (exact Nat.le_of_ble_eq_true rfl) | decide | (exact ⟨by decide, rfl, by decide⟩)) (by first | assumption | rfl | (exact Or.inl rfl) | (exact Or.inr rfl) | omega | (exact Nat.le_of_ble_eq_true rfl) | decide | (exact ⟨by decide, rfl, by decide⟩)) (by first | assumption | rfl | (exact Or.inl rfl) | (exact Or.inr rfl) | omega | (exact Nat.le_of_ble_eq_true rfl) | decide | (exact ⟨by decide, rfl, by decide⟩)) (by first | assumption | rfl | (exact Or.inl rfl) | (exact Or.inr rfl) | omega | (exact Nat.le_of_ble_eq_true rfl) | decide | (exact ⟨by decide, rfl, by decide⟩)) (by first | assumption | rfl | (exact Or.inl rfl) | (exact Or.inr rfl) | omega | (exact Nat.le_of_ble_eq_true rfl) | decide | (exact ⟨by decide, rfl, by decide⟩)) (by first | assumption | rfl | (exact Or.inl rfl) | (exact Or.inr rfl) | omega | (exact Nat.le_of_ble_eq_true rfl) | decide | (exact ⟨by decide, rfl, by decide⟩)) (by first | assumption | rfl | (exact Or.inl rfl) | (exact Or.inr rfl) | omega | (exact Nat.le_of_ble_eq_true rfl) | decide | (exact ⟨by decide, rfl, by decide⟩)) (by first | assumption | rfl | (exact Or.inl rfl) | (exact Or.inr rfl) | omega | (exact Nat.le_of_ble_eq_true rfl) | decide | (exact ⟨by decide, rfl, by decide⟩)) (by first | assumption | rfl | (exact Or.inl rfl) | (exact Or.inr rfl) | omega | (exact Nat.le_of_ble_eq_true rfl) | decide | (exact ⟨by decide, rfl, by decide⟩)) (by first | assumption | rfl | (exact Or.inl rfl) | (exact Or.inr rfl) | omega | (exact Nat.le_of_ble_eq_true rfl) | decide | (exact ⟨by decide, rfl, by decide⟩)) (by first | assumption | rfl | (exact Or.inl rfl) | (exact Or.inr rfl) | omega | (exact Nat.le_of_ble_eq_true rfl) | decide | (exact ⟨by decide, rfl, by decide⟩)) (by first | assumption | rfl | (exact Or.inl rfl) | (exact Or.inr rfl) | omega | (exact Nat.le_of_ble_eq_true rfl) | decide | (exact ⟨by decide, rfl, by decide⟩)) (by first | assumption | rfl | (exact Or.inl rfl) | (exact Or.inr rfl) | omega | (exact Nat.le_of_ble_eq_true rfl) | decide | (exact ⟨by decide, rfl, by decide⟩)) (by first | assumption | rfl | (exact Or.inl rfl) | (exact Or.inr rfl) | omega | (exact Nat.le_of_ble_eq_true rfl) | decide | (exact ⟨by decide, rfl, by decide⟩)) (by first | assumption | rfl | (exact Or.inl rfl) | (exact Or.inr rfl) | omega | (exact Nat.le_of_ble_eq_true rfl) | decide | (exact ⟨by decide, rfl, by decide⟩)) (by first | assumption | rfl | (exact Or.inl rfl) | (exact Or.inr rfl) | omega | (exact Nat.le_of_ble_eq_true rfl) | decide | (exact ⟨by decide, rfl, by decide⟩)) (by first | assumption | rfl | (exact Or.inl rfl) | (exact Or.inr rfl) | omega | (exact Nat.le_of_ble_eq_true rfl) | decide | (exact ⟨by decide, rfl, by decide⟩)) (by first | assumption | rfl | (exact Or.inl rfl) | (exact Or.inr rfl) | omega | (exact Nat.le_of_ble_eq_true rfl) | decide | (exact ⟨by decide, rfl, by decide⟩)) (by first | assumption | rfl | (exact Or.inl rfl) | (exact Or.inr rfl) | omega | (exact Nat.le_of_ble_eq_true rfl) | decide | (exact ⟨by decide, rfl, by decide⟩)) (by first | assumption | rfl | (exact Or.inl rfl) | (exact Or.inr rfl) | omega | (exact Nat.le_of_ble_eq_true rfl) | decide | (exact ⟨by decide, rfl, by decide⟩)) (by first | assumption | rfl | (exact Or.inl rfl) | (exact Or.inr rfl) | omega | (exact Nat.le_of_ble_eq_true rfl) | decide | (exact ⟨by decide, rfl, by decide⟩)) (by first | assumption | rfl | (exact Or.inl rfl) | (exact Or.inr rfl) | omega | (exact Nat.le_of_ble_eq_true rfl) | decide | (exact ⟨by decide, rfl, by decide⟩)) (by first | assumption | rfl | (exact Or.inl rfl) | (exact Or.inr rfl) | omega | (exact Nat.le_of_ble_eq_true rfl) | decide | (exact ⟨by decide, rfl, by decide⟩)) (by first | assumption | rfl | (exact Or.inl rfl) | (exact Or.inr rfl) | omega | (exact Nat.le_of_ble_eq_true rfl) | decide | (exact ⟨by decide, rfl, by decide⟩)) ?_
      refine b_65_78 _ _ _ (by first | assumption | rfl | (exact Or.inl rfl) | (exact Or.inr rfl) | omega | (exact Nat.le_of_ble_eq_true rfl) | decide | (exact ⟨by decide, rfl, by decide⟩)) (by first | assumption | rfl | (exact Or.inl rfl) | (exact Or.inr rfl) | omega | (exact Nat.le_of_ble_eq_true rfl) | decide | (exact ⟨by decide, rfl, by decide⟩)) (by first | assumption | rfl | (exact Or.inl rfl) | (exact Or.inr rfl) | omega | (exact Nat.le_of_ble_eq_true rfl) | decide | (exact ⟨by decide, rfl, by decide⟩)) ?_
      refine k _ (fun q hq => ?_)
      simp only [va_up]
      repeat rw [if_neg (by omega)]
theorem sc_deposit {a p t : Int32} {v : Int64} (hP : mp_P n sl f) (k0 : mp_r a 0 7 ∧ mp_r p 0 7 ∧ mp_r t 0 3 → ∀ f', (∀ q, 505 ≤ q → f' q = f q) → Q (.inl (some (.int 1))) (n, sl, f')) (k1 : ¬ (mp_r a 0 7 ∧ mp_r p 0 7 ∧ mp_r t 0 3) → Q (.inr n) (n + 1, sl + 6, va_up f n (.inr (15, [])))) : mi_W (d + 1) 63 0 (mi_en 6 [.ref 0, .int a, .int p, .int t, .long v]) [] (n, sl, f) Q := by
  have hP0 := hP
  obtain ⟨⟨hn, hn2, hs⟩, hP⟩ := hP
  have q0 : f 0 = .inr (0, [.ref 1, .ref 3, .ref 15, .ref 32, .ref 35, .ref 41, .ref 54, .ref 497, .ref 501, .int 0]) := (hP 0 (by omega)).trans mp_q0
  have q35 : f 35 = .inr (6, [.ref 36, .ref 37, .ref 38, .ref 39, .ref 40, .int 0]) := (hP 35 (by omega)).trans mp_q35
  refine b_63_0 _ _ _ ?_
  refine s_isP (fun h1 => ?_) (fun h1 => ?_)
  · refine b_63_4 _ _ _ ?_ ?_
    · intro e
      exact absurd e (by decide)
    · intro _
      refine b_63_7 _ _ _ ?_
      refine s_isP (fun h2 => ?_) (fun h2 => ?_)
      · refine b_63_11 _ _ _ ?_ ?_
        · intro e
          exact absurd e (by decide)
        · intro _
          refine b_63_14 _ _ _ ?_
          refine s_isT (fun h3 => ?_) (fun h3 => ?_)
          · refine b_63_18 _ _ _ ?_ ?_
            · intro _
              refine b_63_31 _ _ _ (by first | assumption | rfl | (exact Or.inl rfl) | (exact Or.inr rfl) | omega | (exact Nat.le_of_ble_eq_true rfl) | decide | (exact ⟨by decide, rfl, by decide⟩)) (by first | assumption | rfl | (exact Or.inl rfl) | (exact Or.inr rfl) | omega | (exact Nat.le_of_ble_eq_true rfl) | decide | (exact ⟨by decide, rfl, by decide⟩)) ?_
              refine sc_room hP0 ?_
              refine b_63_35 _ _ _ (by first | assumption | rfl | (exact Or.inl rfl) | (exact Or.inr rfl) | omega | (exact Nat.le_of_ble_eq_true rfl) | decide | (exact ⟨by decide, rfl, by decide⟩)) (by first | assumption | rfl | (exact Or.inl rfl) | (exact Or.inr rfl) | omega | (exact Nat.le_of_ble_eq_true rfl) | decide | (exact ⟨by decide, rfl, by decide⟩)) (by first | assumption | rfl | (exact Or.inl rfl) | (exact Or.inr rfl) | omega | (exact Nat.le_of_ble_eq_true rfl) | decide | (exact ⟨by decide, rfl, by decide⟩)) (by first | assumption | rfl | (exact Or.inl rfl) | (exact Or.inr rfl) | omega | (exact Nat.le_of_ble_eq_true rfl) | decide | (exact ⟨by decide, rfl, by decide⟩)) (by first | assumption | rfl | (exact Or.inl rfl) | (exact Or.inr rfl) | omega | (exact Nat.le_of_ble_eq_true rfl) | decide | (exact ⟨by decide, rfl, by decide⟩)) ?_
              refine sc_add hP0 (fun f' h => ?_)
              refine b_63_49 _ _ _ ?_
              exact k0 ⟨h1, h2, h3⟩ f' h
            · intro e
              exact absurd (by decide) e
          · refine b_63_18 _ _ _ ?_ ?_
            · intro e
              exact absurd rfl e
            · intro _
              refine b_63_21 _ _ _ (mi_tq_ok (ce := 15) (by decide +kernel) (by omega) (by omega)) ?_
              exact k1 (fun z => h3 z.2.2)
      · refine b_63_11 _ _ _ ?_ ?_
        · intro _
          refine b_63_21 _ _ _ (mi_tq_ok (ce := 15) (by decide +kernel) (by omega) (by omega)) ?_
          exact k1 (fun z => h2 z.2.1)
        · intro e
          exact absurd rfl e
  · refine b_63_4 _ _ _ ?_ ?_
    · intro _
      refine b_63_21 _ _ _ (mi_tq_ok (ce := 15) (by decide +kernel) (by omega) (by omega)) ?_
      exact k1 (fun z => h1 z.1)
    · intro e
      exact absurd rfl e
theorem mp_lt8' {p : Int32} : p < 8 ↔ ¬ 7 < p := by
  rw [Int32.lt_iff_toInt_lt, Int32.lt_iff_toInt_lt, show (8 : Int32).toInt = 8 from rfl, show (7 : Int32).toInt = 7 from rfl]
  omega
theorem sc_choose {p : Int32} {v : Int64} (hP : mp_P n sl f) (k0 : mp_r p 0 7 → ∀ f', (∀ q, 505 ≤ q → f' q = f q) → Q (.inl (some (.int 1))) (n, sl, f')) (k1 : ¬ mp_r p 0 7 → Q (.inr n) (n + 1, sl + 6, va_up f n (.inr (15, [])))) : mi_W (d + 1) 67 0 (mi_en 4 [.ref 0, .int p, .long v]) [] (n, sl, f) Q := by
  have hP0 := hP
  obtain ⟨⟨hn, hn2, hs⟩, hP⟩ := hP
  have q0 : f 0 = .inr (0, [.ref 1, .ref 3, .ref 15, .ref 32, .ref 35, .ref 41, .ref 54, .ref 497, .ref 501, .int 0]) := (hP 0 (by omega)).trans mp_q0
  have q35 : f 35 = .inr (6, [.ref 36, .ref 37, .ref 38, .ref 39, .ref 40, .int 0]) := (hP 35 (by omega)).trans mp_q35
  refine b_67_0 _ _ _ ?_ ?_
  · intro e
    refine b_67_10 _ _ _ (mi_tq_ok (ce := 15) (by decide +kernel) (by omega) (by omega)) ?_
    exact k1 (fun z => z.1 e)
  · intro e
    refine b_67_4 _ _ _ ?_ ?_
    · intro e2
      refine b_67_20 _ _ _ (by first | assumption | rfl | (exact Or.inl rfl) | (exact Or.inr rfl) | omega | (exact Nat.le_of_ble_eq_true rfl) | decide | (exact ⟨by decide, rfl, by decide⟩)) (by first | assumption | rfl | (exact Or.inl rfl) | (exact Or.inr rfl) | omega | (exact Nat.le_of_ble_eq_true rfl) | decide | (exact ⟨by decide, rfl, by decide⟩)) ?_
      refine sc_room hP0 ?_
      refine b_67_24 _ _ _ (by first | assumption | rfl | (exact Or.inl rfl) | (exact Or.inr rfl) | omega | (exact Nat.le_of_ble_eq_true rfl) | decide | (exact ⟨by decide, rfl, by decide⟩)) (by first | assumption | rfl | (exact Or.inl rfl) | (exact Or.inr rfl) | omega | (exact Nat.le_of_ble_eq_true rfl) | decide | (exact ⟨by decide, rfl, by decide⟩)) (by first | assumption | rfl | (exact Or.inl rfl) | (exact Or.inr rfl) | omega | (exact Nat.le_of_ble_eq_true rfl) | decide | (exact ⟨by decide, rfl, by decide⟩)) (by first | assumption | rfl | (exact Or.inl rfl) | (exact Or.inr rfl) | omega | (exact Nat.le_of_ble_eq_true rfl) | decide | (exact ⟨by decide, rfl, by decide⟩)) (by first | assumption | rfl | (exact Or.inl rfl) | (exact Or.inr rfl) | omega | (exact Nat.le_of_ble_eq_true rfl) | decide | (exact ⟨by decide, rfl, by decide⟩)) ?_
      refine sc_add hP0 (fun f' h => ?_)
      refine b_67_37 _ _ _ ?_
      exact k0 ⟨e, mp_lt8'.mp e2⟩ f' h
    · intro e2
      refine b_67_10 _ _ _ (mi_tq_ok (ce := 15) (by decide +kernel) (by omega) (by omega)) ?_
      exact k1 (fun z => e2 (mp_lt8'.mpr z.2))
theorem sc_remind (hP : mp_P n sl f) (k0 : ∀ f', (∀ q, 505 ≤ q → f' q = f q) → Q (.inl (some (.int 1))) (n, sl, f')) : mi_W (d + 1) 69 0 (mi_en 1 [.ref 0]) [] (n, sl, f) Q := by
  have hP0 := hP
  obtain ⟨⟨hn, hn2, hs⟩, hP⟩ := hP
  have q0 : f 0 = .inr (0, [.ref 1, .ref 3, .ref 15, .ref 32, .ref 35, .ref 41, .ref 54, .ref 497, .ref 501, .int 0]) := (hP 0 (by omega)).trans mp_q0
  have q35 : f 35 = .inr (6, [.ref 36, .ref 37, .ref 38, .ref 39, .ref 40, .int 0]) := (hP 35 (by omega)).trans mp_q35
  refine b_69_0 _ _ _ (by first | assumption | rfl | (exact Or.inl rfl) | (exact Or.inr rfl) | omega | (exact Nat.le_of_ble_eq_true rfl) | decide | (exact ⟨by decide, rfl, by decide⟩)) (by first | assumption | rfl | (exact Or.inl rfl) | (exact Or.inr rfl) | omega | (exact Nat.le_of_ble_eq_true rfl) | decide | (exact ⟨by decide, rfl, by decide⟩)) ?_
  refine sc_room hP0 ?_
  refine b_69_4 _ _ _ (by first | assumption | rfl | (exact Or.inl rfl) | (exact Or.inr rfl) | omega | (exact Nat.le_of_ble_eq_true rfl) | decide | (exact ⟨by decide, rfl, by decide⟩)) (by first | assumption | rfl | (exact Or.inl rfl) | (exact Or.inr rfl) | omega | (exact Nat.le_of_ble_eq_true rfl) | decide | (exact ⟨by decide, rfl, by decide⟩)) (by first | assumption | rfl | (exact Or.inl rfl) | (exact Or.inr rfl) | omega | (exact Nat.le_of_ble_eq_true rfl) | decide | (exact ⟨by decide, rfl, by decide⟩)) (by first | assumption | rfl | (exact Or.inl rfl) | (exact Or.inr rfl) | omega | (exact Nat.le_of_ble_eq_true rfl) | decide | (exact ⟨by decide, rfl, by decide⟩)) (by first | assumption | rfl | (exact Or.inl rfl) | (exact Or.inr rfl) | omega | (exact Nat.le_of_ble_eq_true rfl) | decide | (exact ⟨by decide, rfl, by decide⟩)) ?_
  refine sc_add hP0 (fun f' h => ?_)
  refine b_69_17 _ _ _ ?_
  exact k0 f' h
end
