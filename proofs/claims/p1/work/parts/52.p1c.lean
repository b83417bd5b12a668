/-! methods of the first object, fresh -/
def mp_P (n sl : Nat) (f : Nat → mi_C) : Prop := (575 ≤ n ∧ n ≤ 580 ∧ sl ≤ 102000) ∧ ∀ q, q < 574 → f q = (mp_hh mp_r2).2.2 q
theorem mp_ix4 {p t : Int32} (hp : mp_r p 0 7) (ht : mp_r t 0 3) : (∃ i, mi_ix (p * 4 + t) 32 i) ∧ ∃ i, mi_ix (4 * p + t) 32 i := by
  unfold mp_r at hp ht
  have h1 : p = 0 ∨ p = 1 ∨ p = 2 ∨ p = 3 ∨ p = 4 ∨ p = 5 ∨ p = 6 ∨ p = 7 := by
    have e := hp
    rw [Int32.lt_iff_toInt_lt, Int32.lt_iff_toInt_lt, show (0 : Int32).toInt = 0 from rfl, show (7 : Int32).toInt = 7 from rfl] at e
    simp only [← Int32.toInt_inj, show (0 : Int32).toInt = 0 from rfl, show (1 : Int32).toInt = 1 from rfl, show (2 : Int32).toInt = 2 from rfl, show (3 : Int32).toInt = 3 from rfl, show (4 : Int32).toInt = 4 from rfl, show (5 : Int32).toInt = 5 from rfl, show (6 : Int32).toInt = 6 from rfl, show (7 : Int32).toInt = 7 from rfl]
    omega
  have h2 : t = 0 ∨ t = 1 ∨ t = 2 ∨ t = 3 := by
    have e := ht
    rw [Int32.lt_iff_toInt_lt, Int32.lt_iff_toInt_lt, show (0 : Int32).toInt = 0 from rfl, show (3 : Int32).toInt = 3 from rfl] at e
    simp only [← Int32.toInt_inj, show (0 : Int32).toInt = 0 from rfl, show (1 : Int32).toInt = 1 from rfl, show (2 : Int32).toInt = 2 from rfl, show (3 : Int32).toInt = 3 from rfl]
    omega
  rcases h1 with rfl | rfl | rfl | rfl | rfl | rfl | rfl | rfl <;> rcases h2 with rfl | rfl | rfl | rfl <;> exact ⟨⟨_, by decide, rfl, by decide⟩, ⟨_, by decide, rfl, by decide⟩⟩
section
variable {d n sl : Nat} {f : Nat → mi_C} {Q : (Option Value ⊕ Nat) → mi_H → Prop}
theorem sc_wrong (hP : mp_P n sl f) (k : Q (.inl (some (.int (-1)))) (n, sl, f)) : mi_W d 12 0 (mi_en 1 [.ref 0]) [] (n, sl, f) Q := by
  obtain ⟨⟨hn, hn2, hs⟩, hP⟩ := hP
  have q0 : f 0 = .inr (0, [.ref 1, .ref 3, .ref 15, .ref 32, .ref 35, .ref 41, .ref 54, .ref 497, .ref 501, .int 0]) := (hP 0 (by omega)).trans mp_q0
  have q15 : f 15 = .inr (3, [.ref 1, .ref 3, .ref 16, .ref 20, .ref 24, .ref 28, .int (-1)]) := (hP 15 (by omega)).trans mp_q15
  refine b_12_0 _ _ _ (by first | assumption | rfl | (exact Or.inl rfl) | (exact Or.inr rfl) | omega | (exact Nat.le_of_ble_eq_true rfl) | decide | (exact ⟨by decide, rfl, by decide⟩)) (by first | assumption | rfl | (exact Or.inl rfl) | (exact Or.inr rfl) | omega | (exact Nat.le_of_ble_eq_true rfl) | decide | (exact ⟨by decide, rfl, by decide⟩)) (by first | assumption | rfl | (exact Or.inl rfl) | (exact Or.inr rfl) | omega | (exact Nat.le_of_ble_eq_true rfl) | decide | (exact ⟨by decide, rfl, by decide⟩)) (by first | assumption | rfl | (exact Or.inl rfl) | (exact Or.inr rfl) | omega | (exact Nat.le_of_ble_eq_true rfl) | decide | (exact ⟨by decide, rfl, by decide⟩)) (by first | assumption | rfl | (exact Or.inl rfl) | (exact Or.inr rfl) | omega | (exact Nat.le_of_ble_eq_true rfl) | decide | (exact ⟨by decide, rfl, by decide⟩)) (by first | assumption | rfl | (exact Or.inl rfl) | (exact Or.inr rfl) | omega | (exact Nat.le_of_ble_eq_true rfl) | decide | (exact ⟨by decide, rfl, by decide⟩)) ?_
  exact k
def mp_V (p t : Int32) (a : Int64) : Prop := mp_r p 0 7 ∧ mp_r t 0 3 ∧ 0 ≤ a ∧ a ≤ 2305843009213693952
theorem sc_wallet {p t : Int32} {a : Int64} (hP : mp_P n sl f) (k0 : mp_V p t a → ∀ f', (∀ q, 505 ≤ q → f' q = f q) → Q (.inl (some (.long 0))) (n, sl, f')) (k1 : ¬ mp_V p t a → Q (.inr n) (n + 1, sl + 6, va_up f n (.inr (15, [])))) : mi_W (d + 1) 59 0 (mi_en 8 [.ref 0, .int p, .int t, .long a]) [] (n, sl, f) Q := by
  obtain ⟨⟨hn, hn2, hs⟩, hP⟩ := hP
  have q0 : f 0 = .inr (0, [.ref 1, .ref 3, .ref 15, .ref 32, .ref 35, .ref 41, .ref 54, .ref 497, .ref 501, .int 0]) := (hP 0 (by omega)).trans mp_q0
  have q32 : f 32 = .inr (5, [.ref 33, .ref 34]) := (hP 32 (by omega)).trans mp_q32
  obtain ⟨g33, q33, z33⟩ : ∃ g, f 33 = .inl (3, 32, .inr (.inl g)) ∧ ∀ j, j < 32 → g j = 0 := by
    rw [hP 33 (by omega)]
    exact mp_q33
  refine b_59_0 _ _ _ ?_
  refine s_isP (fun h1 => ?_) (fun h1 => ?_)
  · refine b_59_4 _ _ _ ?_ ?_
    · intro e
      exact absurd e (by decide)
    · intro _
      refine b_59_7 _ _ _ ?_
      refine s_isT (fun h2 => ?_) (fun h2 => ?_)
      · refine b_59_11 _ _ _ ?_ ?_
        · intro e
          exact absurd e (by decide)
        · intro _
          refine b_59_14 _ _ _ ?_ ?_
          · intro e
            refine b_59_28 _ _ _ (mi_tq_ok (ce := 15) (by decide +kernel) (by omega) (by omega)) ?_
            exact k1 (fun v => Int64.not_lt.mpr v.2.2.1 (lg_lt.mp e))
          · intro e
            refine b_59_20 _ _ _ ?_ ?_
            · intro e2
              obtain ⟨⟨i, hi⟩, -⟩ := mp_ix4 h1 h2
              refine b_59_38 _ _ _ _ _ _ _ _ _ (by first | assumption | rfl | (exact Or.inl rfl) | (exact Or.inr rfl) | omega | (exact Nat.le_of_ble_eq_true rfl) | decide | (exact ⟨by decide, rfl, by decide⟩)) (by first | assumption | rfl | (exact Or.inl rfl) | (exact Or.inr rfl) | omega | (exact Nat.le_of_ble_eq_true rfl) | decide | (exact ⟨by decide, rfl, by decide⟩)) (by first | assumption | rfl | (exact Or.inl rfl) | (exact Or.inr rfl) | omega | (exact Nat.le_of_ble_eq_true rfl) | decide | (exact ⟨by decide, rfl, by decide⟩)) (by first | assumption | rfl | (exact Or.inl rfl) | (exact Or.inr rfl) | omega | (exact Nat.le_of_ble_eq_true rfl) | decide | (exact ⟨by decide, rfl, by decide⟩)) (by first | assumption | rfl | (exact Or.inl rfl) | (exact Or.inr rfl) | omega | (exact Nat.le_of_ble_eq_true rfl) | decide | (exact ⟨by decide, rfl, by decide⟩)) (by first | assumption | rfl | (exact Or.inl rfl) | (exact Or.inr rfl) | omega | (exact Nat.le_of_ble_eq_true rfl) | decide | (exact ⟨by decide, rfl, by decide⟩)) (by first | assumption | rfl | (exact Or.inl rfl) | (exact Or.inr rfl) | omega | (exact Nat.le_of_ble_eq_true rfl) | decide | (exact ⟨by decide, rfl, by decide⟩)) (by first | assumption | rfl | (exact Or.inl rfl) | (exact Or.inr rfl) | omega | (exact Nat.le_of_ble_eq_true rfl) | decide | (exact ⟨by decide, rfl, by decide⟩)) (by first | assumption | rfl | (exact Or.inl rfl) | (exact Or.inr rfl) | omega | (exact Nat.le_of_ble_eq_true rfl) | decide | (exact ⟨by decide, rfl, by decide⟩)) (by first | assumption | rfl | (exact Or.inl rfl) | (exact Or.inr rfl) | omega | (exact Nat.le_of_ble_eq_true rfl) | decide | (exact ⟨by decide, rfl, by decide⟩)) (by first | assumption | rfl | (exact Or.inl rfl) | (exact Or.inr rfl) | omega | (exact Nat.le_of_ble_eq_true rfl) | decide | (exact ⟨by decide, rfl, by decide⟩)) (by first | assumption | rfl | (exact Or.inl rfl) | (exact Or.inr rfl) | omega | (exact Nat.le_of_ble_eq_true rfl) | decide | (exact ⟨by decide, rfl, by decide⟩)) (by first | assumption | rfl | (exact Or.inl rfl) | (exact Or.inr rfl) | omega | (exact Nat.le_of_ble_eq_true rfl) | decide | (exact ⟨by decide, rfl, by decide⟩)) (by first | assumption | rfl | (exact Or.inl rfl) | (exact Or.inr rfl) | omega | (exact Nat.le_of_ble_eq_true rfl) | decide | (exact ⟨by decide, rfl, by decide⟩)) (by first | assumption | rfl | (exact Or.inl rfl) | (exact Or.inr rfl) | omega | (exact Nat.le_of_ble_eq_true rfl) | decide | (exact ⟨by decide, rfl, by decide⟩)) (by first | assumption | rfl | (exact Or.inl rfl) | (exact Or.inr rfl) | omega | (exact Nat.le_of_ble_eq_true rfl) | decide | (exact ⟨by decide, rfl, by decide⟩)) (by first | assumption | rfl | (exact Or.inl rfl) | (exact Or.inr rfl) | omega | (exact Nat.le_of_ble_eq_true rfl) | decide | (exact ⟨by decide, rfl, by decide⟩)) (by first | assumption | rfl | (exact Or.inl rfl) | (exact Or.inr rfl) | omega | (exact Nat.le_of_ble_eq_true rfl) | decide | (exact ⟨by decide, rfl, by decide⟩)) ?_
              rw [z33 i hi.2.2]
              refine k0 ⟨h1, h2, Int64.not_lt.mp (fun z => e (lg_lt.mpr z)), lg_le.mp e2⟩ _ ?_
              intro q hq
              simp only [va_up]
              rw [if_neg (by omega)]
            · intro e2
              refine b_59_28 _ _ _ (mi_tq_ok (ce := 15) (by decide +kernel) (by omega) (by omega)) ?_
              exact k1 (fun v => e2 (lg_le.mpr v.2.2.2))
      · refine b_59_11 _ _ _ ?_ ?_
        · intro _
          refine b_59_28 _ _ _ (mi_tq_ok (ce := 15) (by decide +kernel) (by omega) (by omega)) ?_
          exact k1 (fun v => h2 v.2.1)
        · intro e
          exact absurd rfl e
  · refine b_59_4 _ _ _ ?_ ?_
    · intro _
      refine b_59_28 _ _ _ (mi_tq_ok (ce := 15) (by decide +kernel) (by omega) (by omega)) ?_
      exact k1 (fun v => h1 v.1)
    · intro e
      exact absurd rfl e
end
