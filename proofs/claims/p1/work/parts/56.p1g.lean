/-! methods of the second object, fresh -/
def mp_RF (e : Int32) (f f' : Nat → mi_C) : Prop := (∃ fs, f' 505 = .inr (12, fs) ∧ fs[0]? = some (.int e)) ∧ ∀ q, 574 ≤ q → f' q = f q
section
variable {d n sl : Nat} {f : Nat → mi_C} {Q : (Option Value ⊕ Nat) → mi_H → Prop}
theorem sr_thrown {e : Int32} {fs : List Value} (hn : 575 ≤ n) (q : f 505 = .inr (12, fs)) (h0 : fs[0]? = some (.int e)) (k : Q (.inl (some (.int e))) (n, sl, f)) : mi_W d 138 0 (mi_en 1 [.ref 505]) [] (n, sl, f) Q := by
  refine b_138_0 _ _ _ (by first | assumption | rfl | (exact Or.inl rfl) | (exact Or.inr rfl) | omega | (exact Nat.le_of_ble_eq_true rfl) | decide | (exact ⟨by decide, rfl, by decide⟩)) (by first | assumption | rfl | (exact Or.inl rfl) | (exact Or.inr rfl) | omega | (exact Nat.le_of_ble_eq_true rfl) | decide | (exact ⟨by decide, rfl, by decide⟩)) (by first | assumption | rfl | (exact Or.inl rfl) | (exact Or.inr rfl) | omega | (exact Nat.le_of_ble_eq_true rfl) | decide | (exact ⟨by decide, rfl, by decide⟩)) ?_
  exact k
theorem sr_wrong (hn : 575 ≤ n) (hP : ∀ q, 505 ≤ q → q < 574 → f q = (mp_hh mp_r2).2.2 q) (k : ∀ f', mp_RF 0 f f' → Q (.inl (some (.int (-1)))) (n, sl, f')) : mi_W d 171 0 (mi_en 1 [.ref 505]) [] (n, sl, f) Q := by
  have q505 : f 505 = .inr (12, mp_M) := (hP 505 (by omega) (by omega)).trans mp_q505
  refine b_171_0 _ _ _ (by first | assumption | rfl | (exact Or.inl rfl) | (exact Or.inr rfl) | omega | (exact Nat.le_of_ble_eq_true rfl) | decide | (exact ⟨by decide, rfl, by decide⟩)) (by first | assumption | rfl | (exact Or.inl rfl) | (exact Or.inr rfl) | omega | (exact Nat.le_of_ble_eq_true rfl) | decide | (exact ⟨by decide, rfl, by decide⟩)) (by first | assumption | rfl | (exact Or.inl rfl) | (exact Or.inr rfl) | omega | (exact Nat.le_of_ble_eq_true rfl) | decide | (exact ⟨by decide, rfl, by decide⟩)) (by first | assumption | rfl | (exact Or.inl rfl) | (exact Or.inr rfl) | omega | (exact Nat.le_of_ble_eq_true rfl) | decide | (exact ⟨by decide, rfl, by decide⟩)) (by first | assumption | rfl | (exact Or.inl rfl) | (exact Or.inr rfl) | omega | (exact Nat.le_of_ble_eq_true rfl) | decide | (exact ⟨by decide, rfl, by decide⟩)) (by first | assumption | rfl | (exact Or.inl rfl) | (exact Or.inr rfl) | omega | (exact Nat.le_of_ble_eq_true rfl) | decide | (exact ⟨by decide, rfl, by decide⟩)) ?_
  exact k _ ⟨⟨_, rfl, rfl⟩, fun q hq => by simp only [va_up]; repeat rw [if_neg (by omega)]⟩

theorem sr_wallet {p t : Int32} {a : Int64} (hn : 575 ≤ n) (hP : ∀ q, 505 ≤ q → q < 574 → f q = (mp_hh mp_r2).2.2 q) (k0 : mp_V p t a → ∀ f', mp_RF 0 f f' → Q (.inl (some (.long 0))) (n, sl, f')) (k1 : ¬ mp_V p t a → ∀ f', mp_RF 1 f f' → Q (.inl (some (.long 0))) (n, sl, f')) : mi_W (d + 1) 186 0 (mi_en 7 [.ref 505, .int p, .int t, .long a]) [] (n, sl, f) Q := by
  have q505 : f 505 = .inr (12, mp_M) := (hP 505 (by omega) (by omega)).trans mp_q505
  obtain ⟨g550, q550, z550⟩ : ∃ g, f 550 = .inl (3, 32, .inr (.inl g)) ∧ ∀ j, j < 32 → g j = 0 := by
    rw [hP 550 (by omega) (by omega)]
    exact mp_q550
  refine b_186_0 _ _ _ (by first | assumption | rfl | (exact Or.inl rfl) | (exact Or.inr rfl) | omega | (exact Nat.le_of_ble_eq_true rfl) | decide | (exact ⟨by decide, rfl, by decide⟩)) (by first | assumption | rfl | (exact Or.inl rfl) | (exact Or.inr rfl) | omega | (exact Nat.le_of_ble_eq_true rfl) | decide | (exact ⟨by decide, rfl, by decide⟩)) (by first | assumption | rfl | (exact Or.inl rfl) | (exact Or.inr rfl) | omega | (exact Nat.le_of_ble_eq_true rfl) | decide | (exact ⟨by decide, rfl, by decide⟩)) ?_
  refine s_in (fun h1 => ?_) (fun h1 => ?_)
  · refine b_186_15 _ _ _ ?_ ?_
    · intro z
      exact absurd z (by decide)
    · intro _
      refine b_186_18 _ _ _ ?_
      refine s_in (fun h2 => ?_) (fun h2 => ?_)
      · refine b_186_27 _ _ _ ?_ ?_
        · intro z
          exact absurd z (by decide)
        · intro _
          refine b_186_30 _ _ _ ?_
          refine s_in (fun h3 => ?_) (fun h3 => ?_)
          · refine b_186_38 _ _ _ ?_ ?_
            · intro _
              refine b_186_45 _ _ _ ?_
              refine b_186_46 _ _ _ (by first | assumption | rfl | (exact Or.inl rfl) | (exact Or.inr rfl) | omega | (exact Nat.le_of_ble_eq_true rfl) | decide | (exact ⟨by decide, rfl, by decide⟩)) (by first | assumption | rfl | (exact Or.inl rfl) | (exact Or.inr rfl) | omega | (exact Nat.le_of_ble_eq_true rfl) | decide | (exact ⟨by decide, rfl, by decide⟩)) ?_
              refine s_fails0 rfl (by omega) rfl ?_
              refine b_186_50 _ _ _ ?_ ?_
              · intro _
                have p1 := (mp_r64 (b := 7) rfl).mp h1
                have p2 := (mp_r64 (b := 3) rfl).mp h2
                obtain ⟨-, i, hi⟩ := mp_ix4 p1 p2
                refine b_186_55 _ _ _ _ _ _ _ _ _ (by first | assumption | rfl | (exact Or.inl rfl) | (exact Or.inr rfl) | omega | (exact Nat.le_of_ble_eq_true rfl) | decide | (exact ⟨by decide, rfl, by decide⟩)) (by first | assumption | rfl | (exact Or.inl rfl) | (exact Or.inr rfl) | omega | (exact Nat.le_of_ble_eq_true rfl) | decide | (exact ⟨by decide, rfl, by decide⟩)) (by first | assumption | rfl | (exact Or.inl rfl) | (exact Or.inr rfl) | omega | (exact Nat.le_of_ble_eq_true rfl) | decide | (exact ⟨by decide, rfl, by decide⟩)) (by first | assumption | rfl | (exact Or.inl rfl) | (exact Or.inr rfl) | omega | (exact Nat.le_of_ble_eq_true rfl) | decide | (exact ⟨by decide, rfl, by decide⟩)) (by first | assumption | rfl | (exact Or.inl rfl) | (exact Or.inr rfl) | omega | (exact Nat.le_of_ble_eq_true rfl) | decide | (exact ⟨by decide, rfl, by decide⟩)) (by first | assumption | rfl | (exact Or.inl rfl) | (exact Or.inr rfl) | omega | (exact Nat.le_of_ble_eq_true rfl) | decide | (exact ⟨by decide, rfl, by decide⟩)) (by first | assumption | rfl | (exact Or.inl rfl) | (exact Or.inr rfl) | omega | (exact Nat.le_of_ble_eq_true rfl) | decide | (exact ⟨by decide, rfl, by decide⟩)) (by first | assumption | rfl | (exact Or.inl rfl) | (exact Or.inr rfl) | omega | (exact Nat.le_of_ble_eq_true rfl) | decide | (exact ⟨by decide, rfl, by decide⟩)) (by first | assumption | rfl | (exact Or.inl rfl) | (exact Or.inr rfl) | omega | (exact Nat.le_of_ble_eq_true rfl) | decide | (exact ⟨by decide, rfl, by decide⟩)) (by first | assumption | rfl | (exact Or.inl rfl) | (exact Or.inr rfl) | omega | (exact Nat.le_of_ble_eq_true rfl) | decide | (exact ⟨by decide, rfl, by decide⟩)) (by first | assumption | rfl | (exact Or.inl rfl) | (exact Or.inr rfl) | omega | (exact Nat.le_of_ble_eq_true rfl) | decide | (exact ⟨by decide, rfl, by decide⟩)) (by first | assumption | rfl | (exact Or.inl rfl) | (exact Or.inr rfl) | omega | (exact Nat.le_of_ble_eq_true rfl) | decide | (exact ⟨by decide, rfl, by decide⟩)) ?_
                rw [z550 i hi.2.2]
                exact k0 ⟨p1, p2, h3⟩ _ ⟨⟨_, rfl, rfl⟩, fun q hq => by simp only [va_up]; repeat rw [if_neg (by omega)]⟩
              · intro z
                exact absurd rfl z
            · intro z
              exact absurd (by decide) z
          · refine b_186_38 _ _ _ ?_ ?_
            · intro z
              exact absurd rfl z
            · intro _
              refine b_186_41 _ _ _ ?_
              refine b_186_46 _ _ _ (by first | assumption | rfl | (exact Or.inl rfl) | (exact Or.inr rfl) | omega | (exact Nat.le_of_ble_eq_true rfl) | decide | (exact ⟨by decide, rfl, by decide⟩)) (by first | assumption | rfl | (exact Or.inl rfl) | (exact Or.inr rfl) | omega | (exact Nat.le_of_ble_eq_true rfl) | decide | (exact ⟨by decide, rfl, by decide⟩)) ?_
              refine s_fails1 rfl (by omega) rfl (by decide) ?_
              refine b_186_50 _ _ _ ?_ ?_
              · intro z
                exact absurd z (by decide)
              · intro _
                refine b_186_53 _ _ _ ?_
                exact k1 (fun v => h3 v.2.2) _ ⟨⟨_, rfl, rfl⟩, fun q hq => by simp only [va_up]; repeat rw [if_neg (by omega)]⟩
      · refine b_186_27 _ _ _ ?_ ?_
        · intro _
          refine b_186_41 _ _ _ ?_
          refine b_186_46 _ _ _ (by first | assumption | rfl | (exact Or.inl rfl) | (exact Or.inr rfl) | omega | (exact Nat.le_of_ble_eq_true rfl) | decide | (exact ⟨by decide, rfl, by decide⟩)) (by first | assumption | rfl | (exact Or.inl rfl) | (exact Or.inr rfl) | omega | (exact Nat.le_of_ble_eq_true rfl) | decide | (exact ⟨by decide, rfl, by decide⟩)) ?_
          refine s_fails1 rfl (by omega) rfl (by decide) ?_
          refine b_186_50 _ _ _ ?_ ?_
          · intro z
            exact absurd z (by decide)
          · intro _
            refine b_186_53 _ _ _ ?_
            exact k1 (fun v => h2 ((mp_r64 (b := 3) rfl).mpr v.2.1)) _ ⟨⟨_, rfl, rfl⟩, fun q hq => by simp only [va_up]; repeat rw [if_neg (by omega)]⟩
        · intro z
          exact absurd rfl z
  · refine b_186_15 _ _ _ ?_ ?_
    · intro _
      refine b_186_41 _ _ _ ?_
      refine b_186_46 _ _ _ (by first | assumption | rfl | (exact Or.inl rfl) | (exact Or.inr rfl) | omega | (exact Nat.le_of_ble_eq_true rfl) | decide | (exact ⟨by decide, rfl, by decide⟩)) (by first | assumption | rfl | (exact Or.inl rfl) | (exact Or.inr rfl) | omega | (exact Nat.le_of_ble_eq_true rfl) | decide | (exact ⟨by decide, rfl, by decide⟩)) ?_
      refine s_fails1 rfl (by omega) rfl (by decide) ?_
      refine b_186_50 _ _ _ ?_ ?_
      · intro z
        exact absurd z (by decide)
      · intro _
        refine b_186_53 _ _ _ ?_
        exact k1 (fun v => h1 ((mp_r64 (b := 7) rfl).mpr v.1)) _ ⟨⟨_, rfl, rfl⟩, fun q hq => by simp only [va_up]; repeat rw [if_neg (by omega)]⟩
    · intro z
      exact absurd rfl z
theorem sr_input {a b c e : Int32} {v : Int64} {X : mi_C} (hX : X = .inr (12, mp_M.set 0 (.int 0))) (hn : 575 ≤ n) (hP : ∀ q, 505 ≤ q → q < 574 → f q = (mp_hh mp_r2).2.2 q) (k : ∀ f', mp_RF 0 f f' → Q (.inl (some (.int 1))) (n, sl, f')) : mi_W d 188 0 (mi_en 7 [.ref 505, .int a, .int b, .int c, .int e, .long v]) [] (n, sl, va_up f 505 X) Q := by
  obtain ⟨g551, q551⟩ : ∃ g, f 551 = .inl (0, 16, .inl g) := by
    rw [hP 551 (by omega) (by omega)]
    exact mp_q551
  obtain ⟨g552, q552⟩ : ∃ g, f 552 = .inl (0, 16, .inl g) := by
    rw [hP 552 (by omega) (by omega)]
    exact mp_q552
  obtain ⟨g553, q553⟩ : ∃ g, f 553 = .inl (0, 16, .inl g) := by
    rw [hP 553 (by omega) (by omega)]
    exact mp_q553
  obtain ⟨g554, q554⟩ : ∃ g, f 554 = .inl (0, 16, .inl g) := by
    rw [hP 554 (by omega) (by omega)]
    exact mp_q554
  obtain ⟨g555, q555⟩ : ∃ g, f 555 = .inl (3, 16, .inr (.inl g)) := by
    rw [hP 555 (by omega) (by omega)]
    exact mp_q555
  subst hX
  refine b_188_0 _ _ _ _ _ _ _ _ _ _ _ _ _ _ _ _ _ _ (by first | assumption | rfl | (exact Or.inl rfl) | (exact Or.inr rfl) | omega | (exact Nat.le_of_ble_eq_true rfl) | decide | (exact ⟨by decide, rfl, by decide⟩)) (by first | assumption | rfl | (exact Or.inl rfl) | (exact Or.inr rfl) | omega | (exact Nat.le_of_ble_eq_true rfl) | decide | (exact ⟨by decide, rfl, by decide⟩)) (by first | assumption | rfl | (exact Or.inl rfl) | (exact Or.inr rfl) | omega | (exact Nat.le_of_ble_eq_true rfl) | decide | (exact ⟨by decide, rfl, by decide⟩)) (by first | assumption | rfl | (exact Or.inl rfl) | (exact Or.inr rfl) | omega | (exact Nat.le_of_ble_eq_true rfl) | decide | (exact ⟨by decide, rfl, by decide⟩)) (by first | assumption | rfl | (exact Or.inl rfl) | (exact Or.inr rfl) | omega | (exact Nat.le_of_ble_eq_true rfl) | decide | (exact ⟨by decide, rfl, by decide⟩)) (by first | assumption | rfl | (exact Or.inl rfl) | (exact Or.inr rfl) | omega | (exact Nat.le_of_ble_eq_true rfl) | decide | (exact ⟨by decide, rfl, by decide⟩)) (by first | assumption | rfl | (exact Or.inl rfl) | (exact Or.inr rfl) | omega | (exact Nat.le_of_ble_eq_true rfl) | decide | (exact ⟨by decide, rfl, by decide⟩)) (by first | assumption | rfl | (exact Or.inl rfl) | (exact Or.inr rfl) | omega | (exact Nat.le_of_ble_eq_true rfl) | decide | (exact ⟨by decide, rfl, by decide⟩)) (by first | assumption | rfl | (exact Or.inl rfl) | (exact Or.inr rfl) | omega | (exact Nat.le_of_ble_eq_true rfl) | decide | (exact ⟨by decide, rfl, by decide⟩)) (by first | assumption | rfl | (exact Or.inl rfl) | (exact Or.inr rfl) | omega | (exact Nat.le_of_ble_eq_true rfl) | decide | (exact ⟨by decide, rfl, by decide⟩)) (by first | assumption | rfl | (exact Or.inl rfl) | (exact Or.inr rfl) | omega | (exact Nat.le_of_ble_eq_true rfl) | decide | (exact ⟨by decide, rfl, by decide⟩)) (by first | assumption | rfl | (exact Or.inl rfl) | (exact Or.inr rfl) | omega | (exact Nat.le_of_ble_eq_true rfl) | decide | (exact ⟨by decide, rfl, by decide⟩)) (by first | assumption | rfl | (exact Or.inl rfl) | (exact Or.inr rfl) | omega | (exact Nat.le_of_ble_eq_true rfl) | decide | (exact ⟨by decide, rfl, by decide⟩)) (by first | assumption | rfl | (exact Or.inl rfl) | (exact Or.inr rfl) | omega | (exact Nat.le_of_ble_eq_true rfl) | decide | (exact ⟨by decide, rfl, by decide⟩)) (by first | assumption | rfl | (exact Or.inl rfl) | (exact Or.inr rfl) | omega | (exact Nat.le_of_ble_eq_true rfl) | decide | (exact ⟨by decide, rfl, by decide⟩)) (by first | assumption | rfl | (exact Or.inl rfl) | (exact Or.inr rfl) | omega | (exact Nat.le_of_ble_eq_true rfl) | decide | (exact ⟨by decide, rfl, by decide⟩)) (by first | assumption | rfl | (exact Or.inl rfl) | (exact Or.inr rfl) | omega | (exact Nat.le_of_ble_eq_true rfl) | decide | (exact ⟨by decide, rfl, by decide⟩)) (by first | assumption | rfl | (exact Or.inl rfl) | (exact Or.inr rfl) | omega | (exact Nat.le_of_ble_eq_true rfl) | decide | (exact ⟨by decide, rfl, by decide⟩)) (by first | assumption | rfl | (exact Or.inl rfl) | (exact Or.inr rfl) | omega | (exact Nat.le_of_ble_eq_true rfl) | decide | (exact ⟨by decide, rfl, by decide⟩)) (by first | assumption | rfl | (exact Or.inl rfl) | (exact Or.inr rfl) | omega | (exact Nat.le_of_ble_eq_true rfl) | decide | (exact ⟨by decide, rfl, by decide⟩)) (by first | assumption | rfl | (exact Or.inl rfl) | (exact Or.inr rfl) | omega | (exact Nat.le_of_ble_eq_true rfl) | decide | (exact ⟨by decide, rfl, by decide⟩)) (by first | assumption | rfl | (exact Or.inl rfl) | (exact Or.inr rfl) | omega | (exact Nat.le_of_ble_eq_true rfl) | decide | (exact ⟨by decide, rfl, by decide⟩)) (by first | assumption | rfl | (exact Or.inl rfl) | (exact Or.inr rfl) | omega | (exact Nat.le_of_ble_eq_true rfl) | decide | (exact ⟨by decide, rfl, by decide⟩)) (by first | assumption | rfl | (exact Or.inl rfl) | (exact Or.inr rfl) | omega | (exact Nat.le_of_ble_eq_true rfl) | decide | (exact ⟨by decide, rfl, by decide⟩)) (by first | assumption | rfl | (exact Or.inl rfl) | (exact Or.inr rfl) | omega | (exact Nat.le_of_ble_eq_true rfl) | decide | (exact ⟨by decide, rfl, by decide⟩)) (by first | assumption | rfl | (exact Or.inl rfl) | (exact Or.inr rfl) | omega | (exact Nat.le_of_ble_eq_true rfl) | decide | (exact ⟨by decide, rfl, by decide⟩)) (by first | assumption | rfl | (exact Or.inl rfl) | (exact Or.inr rfl) | omega | (exact Nat.le_of_ble_eq_true rfl) | decide | (exact ⟨by decide, rfl, by decide⟩)) (by first | assumption | rfl | (exact Or.inl rfl) | (exact Or.inr rfl) | omega | (exact Nat.le_of_ble_eq_true rfl) | decide | (exact ⟨by decide, rfl, by decide⟩)) (by first | assumption | rfl | (exact Or.inl rfl) | (exact Or.inr rfl) | omega | (exact Nat.le_of_ble_eq_true rfl) | decide | (exact ⟨by decide, rfl, by decide⟩)) (by first | assumption | rfl | (exact Or.inl rfl) | (exact Or.inr rfl) | omega | (exact Nat.le_of_ble_eq_true rfl) | decide | (exact ⟨by decide, rfl, by decide⟩)) (by first | assumption | rfl | (exact Or.inl rfl) | (exact Or.inr rfl) | omega | (exact Nat.le_of_ble_eq_true rfl) | decide | (exact ⟨by decide, rfl, by decide⟩)) (by first | assumption | rfl | (exact Or.inl rfl) | (exact Or.inr rfl) | omega | (exact Nat.le_of_ble_eq_true rfl) | decide | (exact ⟨by decide, rfl, by decide⟩)) (by first | assumption | rfl | (exact Or.inl rfl) | (exact Or.inr rfl) | omega | (exact Nat.le_of_ble_eq_true rfl) | decide | (exact ⟨by decide, rfl, by decide⟩)) (by first | assumption | rfl | (exact Or.inl rfl) | (exact Or.inr rfl) | omega | (exact Nat.le_of_ble_eq_true rfl) | decide | (exact ⟨by decide, rfl, by decide⟩)) (by first | assumption | rfl | (exact Or.inl rfl) | (exact Or.inr rfl) | omega | (exact Nat.le_of_ble_eq_true rfl) | decide | (exact ⟨by decide, rfl, by decide⟩)) (by first | assumption | rfl | (exact Or.inl rfl) | (exact Or.inr rfl) | omega | (exact Nat.le_of_ble_eq_true rfl) | decide | (exact ⟨by decide, rfl, by decide⟩)) (by first | assumption | rfl | (exact Or.inl rfl) | (exact Or.inr rfl) | omega | (exact Nat.le_of_ble_eq_true rfl) | decide | (exact ⟨by decide, rfl, by decide⟩)) (by first | assumption | rfl | (exact Or.inl rfl) | (exact Or.inr rfl) | omega | (exact Nat.le_of_ble_eq_true rfl) | decide | (exact ⟨by decide, rfl, by decide⟩)) (by first | assumption | rfl | (exact Or.inl rfl) | (exact Or.inr rfl) | omega | (exact Nat.le_of_ble_eq_true rfl) | decide | (exact ⟨by decide, rfl, by decide⟩)) (by first | assumption | rfl | (exact Or.inl rfl) | (exact Or.inr rfl) | omega | (exact Nat.le_of_ble_eq_true rfl) | decide | (exact ⟨by decide, rfl, by decide⟩)) (by first | assumption | rfl | (exact Or.inl rfl) | (exact Or.inr rfl) | omega | (exact Nat.le_of_ble_eq_true rfl) | decide | (exact ⟨by decide, rfl, by decide⟩)) (by first | assumption | rfl | (exact Or.inl rfl) | (exact Or.inr rfl) | omega | (exact Nat.le_of_ble_eq_true rfl) | decide | (exact ⟨by decide, rfl, by decide⟩)) (by first | assumption | rfl | (exact Or.inl rfl) | (exact Or.inr rfl) | omega | (exact Nat.le_of_ble_eq_true rfl) | decide | (exact ⟨by decide, rfl, by decide⟩)) (by first | assumption | rfl | (exact Or.inl rfl) | (exact Or.inr rfl) | omega | (exact Nat.le_of_ble_eq_true rfl) | decide | (exact ⟨by decide, rfl, by decide⟩)) (by first | assumption | rfl | (exact Or.inl rfl) | (exact Or.inr rfl) | omega | (exact Nat.le_of_ble_eq_true rfl) | decide | (exact ⟨by decide, rfl, by decide⟩)) (by first | assumption | rfl | (exact Or.inl rfl) | (exact Or.inr rfl) | omega | (exact Nat.le_of_ble_eq_true rfl) | decide | (exact ⟨by decide, rfl, by decide⟩)) (by first | assumption | rfl | (exact Or.inl rfl) | (exact Or.inr rfl) | omega | (exact Nat.le_of_ble_eq_true rfl) | decide | (exact ⟨by decide, rfl, by decide⟩)) (by first | assumption | rfl | (exact Or.inl rfl) | (exact Or.inr rfl) | omega | (exact Nat.le_of_ble_eq_true rfl) | decide | (exact ⟨by decide, rfl, by decide⟩)) (by first | assumption | rfl | (exact Or.inl rfl) | (exact Or.inr rfl) | omega | (exact Nat.le_of_ble_eq_true rfl) | decide | (exact ⟨by decide, rfl, by decide⟩)) (by first | assumption | rfl | (exact Or.inl rfl) | (exact Or.inr rfl) | omega | (exact Nat.le_of_ble_eq_true rfl) | decide | (exact ⟨by decide, rfl, by decide⟩)) (by first | assumption | rfl | (exact Or.inl rfl) | (exact Or.inr rfl) | omega | (exact Nat.le_of_ble_eq_true rfl) | decide | (exact ⟨by decide, rfl, by decide⟩)) ?_
  exact k _ ⟨⟨_, rfl, rfl⟩, fun q hq => by simp only [va_up]; repeat rw [if_neg (by omega)]⟩
theorem sr_deposit {a p t : Int32} {v : Int64} (hn : 575 ≤ n) (hP : ∀ q, 505 ≤ q → q < 574 → f q = (mp_hh mp_r2).2.2 q) (k0 : (mp_r a 0 7 ∧ mp_r p 0 7 ∧ mp_r t 0 3) → ∀ f', mp_RF 0 f f' → Q (.inl (some (.int 1))) (n, sl, f')) (k1 : ¬ (mp_r a 0 7 ∧ mp_r p 0 7 ∧ mp_r t 0 3) → ∀ f', mp_RF 1 f f' → Q (.inl (some (.int 0))) (n, sl, f')) : mi_W (d + 1) 187 0 (mi_en 6 [.ref 505, .int a, .int p, .int t, .long v]) [] (n, sl, f) Q := by
  have q505 : f 505 = .inr (12, mp_M) := (hP 505 (by omega) (by omega)).trans mp_q505
  refine b_187_0 _ _ _ (by first | assumption | rfl | (exact Or.inl rfl) | (exact Or.inr rfl) | omega | (exact Nat.le_of_ble_eq_true rfl) | decide | (exact ⟨by decide, rfl, by decide⟩)) (by first | assumption | rfl | (exact Or.inl rfl) | (exact Or.inr rfl) | omega | (exact Nat.le_of_ble_eq_true rfl) | decide | (exact ⟨by decide, rfl, by decide⟩)) (by first | assumption | rfl | (exact Or.inl rfl) | (exact Or.inr rfl) | omega | (exact Nat.le_of_ble_eq_true rfl) | decide | (exact ⟨by decide, rfl, by decide⟩)) ?_
  refine s_in (fun h1 => ?_) (fun h1 => ?_)
  · refine b_187_15 _ _ _ ?_ ?_
    · intro z
      exact absurd z (by decide)
    · intro _
      refine b_187_18 _ _ _ ?_
      refine s_in (fun h2 => ?_) (fun h2 => ?_)
      · refine b_187_27 _ _ _ ?_ ?_
        · intro z
          exact absurd z (by decide)
        · intro _
          refine b_187_30 _ _ _ ?_
          refine s_in (fun h3 => ?_) (fun h3 => ?_)
          · refine b_187_39 _ _ _ ?_ ?_
            · intro _
              refine b_187_46 _ _ _ ?_
              refine b_187_47 _ _ _ (by first | assumption | rfl | (exact Or.inl rfl) | (exact Or.inr rfl) | omega | (exact Nat.le_of_ble_eq_true rfl) | decide | (exact ⟨by decide, rfl, by decide⟩)) (by first | assumption | rfl | (exact Or.inl rfl) | (exact Or.inr rfl) | omega | (exact Nat.le_of_ble_eq_true rfl) | decide | (exact ⟨by decide, rfl, by decide⟩)) ?_
              refine s_fails0 rfl (by omega) rfl ?_
              refine b_187_51 _ _ _ ?_ ?_
              · intro z
                exact absurd rfl z
              · intro _
                refine b_187_54 _ _ _ (by first | assumption | rfl | (exact Or.inl rfl) | (exact Or.inr rfl) | omega | (exact Nat.le_of_ble_eq_true rfl) | decide | (exact ⟨by decide, rfl, by decide⟩)) (by first | assumption | rfl | (exact Or.inl rfl) | (exact Or.inr rfl) | omega | (exact Nat.le_of_ble_eq_true rfl) | decide | (exact ⟨by decide, rfl, by decide⟩)) (by first | assumption | rfl | (exact Or.inl rfl) | (exact Or.inr rfl) | omega | (exact Nat.le_of_ble_eq_true rfl) | decide | (exact ⟨by decide, rfl, by decide⟩)) ?_ ?_
                · intro _
                  refine b_187_68 _ _ _ ?_
                  refine b_187_69 _ _ _ (by first | assumption | rfl | (exact Or.inl rfl) | (exact Or.inr rfl) | omega | (exact Nat.le_of_ble_eq_true rfl) | decide | (exact ⟨by decide, rfl, by decide⟩)) (by first | assumption | rfl | (exact Or.inl rfl) | (exact Or.inr rfl) | omega | (exact Nat.le_of_ble_eq_true rfl) | decide | (exact ⟨by decide, rfl, by decide⟩)) ?_
                  refine s_fails0 rfl (by omega) rfl ?_
                  refine b_187_73 _ _ _ ?_ ?_
                  · intro _
                    have p1 := (mp_r64 (b := 7) rfl).mp h1
                    have p2 := (mp_r64 (b := 7) rfl).mp h2
                    have p3 := (mp_r64 (b := 3) rfl).mp h3
                    refine b_187_78 _ _ _ (by first | assumption | rfl | (exact Or.inl rfl) | (exact Or.inr rfl) | omega | (exact Nat.le_of_ble_eq_true rfl) | decide | (exact ⟨by decide, rfl, by decide⟩)) (by first | assumption | rfl | (exact Or.inl rfl) | (exact Or.inr rfl) | omega | (exact Nat.le_of_ble_eq_true rfl) | decide | (exact ⟨by decide, rfl, by decide⟩)) ?_
                    refine sr_input rfl hn hP (fun f' hr => ?_)
                    refine b_187_89 _ _ _ ?_
                    exact k0 ⟨p1, p2, p3⟩ f' hr
                  · intro z
                    exact absurd rfl z
                · intro z
                  exact absurd (by decide) z
            · intro z
              exact absurd (by decide) z
          · refine b_187_39 _ _ _ ?_ ?_
            · intro z
              exact absurd rfl z
            · intro _
              refine b_187_42 _ _ _ ?_
              refine b_187_47 _ _ _ (by first | assumption | rfl | (exact Or.inl rfl) | (exact Or.inr rfl) | omega | (exact Nat.le_of_ble_eq_true rfl) | decide | (exact ⟨by decide, rfl, by decide⟩)) (by first | assumption | rfl | (exact Or.inl rfl) | (exact Or.inr rfl) | omega | (exact Nat.le_of_ble_eq_true rfl) | decide | (exact ⟨by decide, rfl, by decide⟩)) ?_
              refine s_fails1 rfl (by omega) rfl (by decide) ?_
              refine b_187_51 _ _ _ ?_ ?_
              · intro _
                refine b_187_76 _ _ _ ?_
                exact k1 (fun v => h3 ((mp_r64 (b := 3) rfl).mpr v.2.2)) _ ⟨⟨_, rfl, rfl⟩, fun q hq => by simp only [va_up]; repeat rw [if_neg (by omega)]⟩
              · intro z
                exact absurd (by decide) z
      · refine b_187_27 _ _ _ ?_ ?_
        · intro _
          refine b_187_42 _ _ _ ?_
          refine b_187_47 _ _ _ (by first | assumption | rfl | (exact Or.inl rfl) | (exact Or.inr rfl) | omega | (exact Nat.le_of_ble_eq_true rfl) | decide | (exact ⟨by decide, rfl, by decide⟩)) (by first | assumption | rfl | (exact Or.inl rfl) | (exact Or.inr rfl) | omega | (exact Nat.le_of_ble_eq_true rfl) | decide | (exact ⟨by decide, rfl, by decide⟩)) ?_
          refine s_fails1 rfl (by omega) rfl (by decide) ?_
          refine b_187_51 _ _ _ ?_ ?_
          · intro _
            refine b_187_76 _ _ _ ?_
            exact k1 (fun v => h2 ((mp_r64 (b := 7) rfl).mpr v.2.1)) _ ⟨⟨_, rfl, rfl⟩, fun q hq => by simp only [va_up]; repeat rw [if_neg (by omega)]⟩
          · intro z
            exact absurd (by decide) z
        · intro z
          exact absurd rfl z
  · refine b_187_15 _ _ _ ?_ ?_
    · intro _
      refine b_187_42 _ _ _ ?_
      refine b_187_47 _ _ _ (by first | assumption | rfl | (exact Or.inl rfl) | (exact Or.inr rfl) | omega | (exact Nat.le_of_ble_eq_true rfl) | decide | (exact ⟨by decide, rfl, by decide⟩)) (by first | assumption | rfl | (exact Or.inl rfl) | (exact Or.inr rfl) | omega | (exact Nat.le_of_ble_eq_true rfl) | decide | (exact ⟨by decide, rfl, by decide⟩)) ?_
      refine s_fails1 rfl (by omega) rfl (by decide) ?_
      refine b_187_51 _ _ _ ?_ ?_
      · intro _
        refine b_187_76 _ _ _ ?_
        exact k1 (fun v => h1 ((mp_r64 (b := 7) rfl).mpr v.1)) _ ⟨⟨_, rfl, rfl⟩, fun q hq => by simp only [va_up]; repeat rw [if_neg (by omega)]⟩
      · intro z
        exact absurd (by decide) z
    · intro z
      exact absurd rfl z
theorem sr_choose {p : Int32} {v : Int64} (hn : 575 ≤ n) (hP : ∀ q, 505 ≤ q → q < 574 → f q = (mp_hh mp_r2).2.2 q) (k0 : mp_r p 0 7 → ∀ f', mp_RF 0 f f' → Q (.inl (some (.int 1))) (n, sl, f')) (k1 : ¬ mp_r p 0 7 → ∀ f', mp_RF 1 f f' → Q (.inl (some (.int 0))) (n, sl, f')) : mi_W (d + 1) 189 0 (mi_en 4 [.ref 505, .int p, .long v]) [] (n, sl, f) Q := by
  have q505 : f 505 = .inr (12, mp_M) := (hP 505 (by omega) (by omega)).trans mp_q505
  refine b_189_0 _ _ _ (by first | assumption | rfl | (exact Or.inl rfl) | (exact Or.inr rfl) | omega | (exact Nat.le_of_ble_eq_true rfl) | decide | (exact ⟨by decide, rfl, by decide⟩)) (by first | assumption | rfl | (exact Or.inl rfl) | (exact Or.inr rfl) | omega | (exact Nat.le_of_ble_eq_true rfl) | decide | (exact ⟨by decide, rfl, by decide⟩)) (by first | assumption | rfl | (exact Or.inl rfl) | (exact Or.inr rfl) | omega | (exact Nat.le_of_ble_eq_true rfl) | decide | (exact ⟨by decide, rfl, by decide⟩)) ?_
  refine s_in (fun h1 => ?_) (fun h1 => ?_)
  · refine b_189_15 _ _ _ ?_ ?_
    · intro _
      refine b_189_22 _ _ _ ?_
      refine b_189_23 _ _ _ (by first | assumption | rfl | (exact Or.inl rfl) | (exact Or.inr rfl) | omega | (exact Nat.le_of_ble_eq_true rfl) | decide | (exact ⟨by decide, rfl, by decide⟩)) (by first | assumption | rfl | (exact Or.inl rfl) | (exact Or.inr rfl) | omega | (exact Nat.le_of_ble_eq_true rfl) | decide | (exact ⟨by decide, rfl, by decide⟩)) ?_
      refine s_fails0 rfl (by omega) rfl ?_
      refine b_189_27 _ _ _ ?_ ?_
      · intro z
        exact absurd rfl z
      · intro _
        refine b_189_30 _ _ _ (by first | assumption | rfl | (exact Or.inl rfl) | (exact Or.inr rfl) | omega | (exact Nat.le_of_ble_eq_true rfl) | decide | (exact ⟨by decide, rfl, by decide⟩)) (by first | assumption | rfl | (exact Or.inl rfl) | (exact Or.inr rfl) | omega | (exact Nat.le_of_ble_eq_true rfl) | decide | (exact ⟨by decide, rfl, by decide⟩)) (by first | assumption | rfl | (exact Or.inl rfl) | (exact Or.inr rfl) | omega | (exact Nat.le_of_ble_eq_true rfl) | decide | (exact ⟨by decide, rfl, by decide⟩)) ?_ ?_
        · intro _
          refine b_189_44 _ _ _ ?_
          refine b_189_45 _ _ _ (by first | assumption | rfl | (exact Or.inl rfl) | (exact Or.inr rfl) | omega | (exact Nat.le_of_ble_eq_true rfl) | decide | (exact ⟨by decide, rfl, by decide⟩)) (by first | assumption | rfl | (exact Or.inl rfl) | (exact Or.inr rfl) | omega | (exact Nat.le_of_ble_eq_true rfl) | decide | (exact ⟨by decide, rfl, by decide⟩)) ?_
          refine s_fails0 rfl (by omega) rfl ?_
          refine b_189_49 _ _ _ ?_ ?_
          · intro _
            have p1 := (mp_r64 (b := 7) rfl).mp h1
            refine b_189_54 _ _ _ (by first | assumption | rfl | (exact Or.inl rfl) | (exact Or.inr rfl) | omega | (exact Nat.le_of_ble_eq_true rfl) | decide | (exact ⟨by decide, rfl, by decide⟩)) (by first | assumption | rfl | (exact Or.inl rfl) | (exact Or.inr rfl) | omega | (exact Nat.le_of_ble_eq_true rfl) | decide | (exact ⟨by decide, rfl, by decide⟩)) ?_
            refine sr_input rfl hn hP (fun f' hr => ?_)
            refine b_189_64 _ _ _ ?_
            exact k0 p1 f' hr
          · intro z
            exact absurd rfl z
        · intro z
          exact absurd (by decide) z
    · intro z
      exact absurd (by decide) z
  · refine b_189_15 _ _ _ ?_ ?_
    · intro z
      exact absurd rfl z
    · intro _
      refine b_189_18 _ _ _ ?_
      refine b_189_23 _ _ _ (by first | assumption | rfl | (exact Or.inl rfl) | (exact Or.inr rfl) | omega | (exact Nat.le_of_ble_eq_true rfl) | decide | (exact ⟨by decide, rfl, by decide⟩)) (by first | assumption | rfl | (exact Or.inl rfl) | (exact Or.inr rfl) | omega | (exact Nat.le_of_ble_eq_true rfl) | decide | (exact ⟨by decide, rfl, by decide⟩)) ?_
      refine s_fails1 rfl (by omega) rfl (by decide) ?_
      refine b_189_27 _ _ _ ?_ ?_
      · intro _
        refine b_189_52 _ _ _ ?_
        exact k1 (fun v => h1 ((mp_r64 (b := 7) rfl).mpr v)) _ ⟨⟨_, rfl, rfl⟩, fun q hq => by simp only [va_up]; repeat rw [if_neg (by omega)]⟩
      · intro z
        exact absurd (by decide) z
theorem sr_remind  (hn : 575 ≤ n) (hP : ∀ q, 505 ≤ q → q < 574 → f q = (mp_hh mp_r2).2.2 q) (k0 : ∀ f', mp_RF 0 f f' → Q (.inl (some (.int 1))) (n, sl, f')) : mi_W (d + 1) 190 0 (mi_en 1 [.ref 505]) [] (n, sl, f) Q := by
  have q505 : f 505 = .inr (12, mp_M) := (hP 505 (by omega) (by omega)).trans mp_q505
  refine b_190_0 _ _ _ (by first | assumption | rfl | (exact Or.inl rfl) | (exact Or.inr rfl) | omega | (exact Nat.le_of_ble_eq_true rfl) | decide | (exact ⟨by decide, rfl, by decide⟩)) (by first | assumption | rfl | (exact Or.inl rfl) | (exact Or.inr rfl) | omega | (exact Nat.le_of_ble_eq_true rfl) | decide | (exact ⟨by decide, rfl, by decide⟩)) (by first | assumption | rfl | (exact Or.inl rfl) | (exact Or.inr rfl) | omega | (exact Nat.le_of_ble_eq_true rfl) | decide | (exact ⟨by decide, rfl, by decide⟩)) (by first | assumption | rfl | (exact Or.inl rfl) | (exact Or.inr rfl) | omega | (exact Nat.le_of_ble_eq_true rfl) | decide | (exact ⟨by decide, rfl, by decide⟩)) (by first | assumption | rfl | (exact Or.inl rfl) | (exact Or.inr rfl) | omega | (exact Nat.le_of_ble_eq_true rfl) | decide | (exact ⟨by decide, rfl, by decide⟩)) (by first | assumption | rfl | (exact Or.inl rfl) | (exact Or.inr rfl) | omega | (exact Nat.le_of_ble_eq_true rfl) | decide | (exact ⟨by decide, rfl, by decide⟩)) ?_ ?_
  · intro _
    refine b_190_19 _ _ _ ?_
    refine b_190_20 _ _ _ (by first | assumption | rfl | (exact Or.inl rfl) | (exact Or.inr rfl) | omega | (exact Nat.le_of_ble_eq_true rfl) | decide | (exact ⟨by decide, rfl, by decide⟩)) (by first | assumption | rfl | (exact Or.inl rfl) | (exact Or.inr rfl) | omega | (exact Nat.le_of_ble_eq_true rfl) | decide | (exact ⟨by decide, rfl, by decide⟩)) ?_
    refine s_fails0 rfl (by omega) rfl ?_
    refine b_190_24 _ _ _ ?_ ?_
    · intro _
      refine b_190_29 _ _ _ (by first | assumption | rfl | (exact Or.inl rfl) | (exact Or.inr rfl) | omega | (exact Nat.le_of_ble_eq_true rfl) | decide | (exact ⟨by decide, rfl, by decide⟩)) (by first | assumption | rfl | (exact Or.inl rfl) | (exact Or.inr rfl) | omega | (exact Nat.le_of_ble_eq_true rfl) | decide | (exact ⟨by decide, rfl, by decide⟩)) ?_
      refine sr_input rfl hn hP (fun f' hr => ?_)
      refine b_190_39 _ _ _ ?_
      exact k0 f' hr
    · intro z
      exact absurd rfl z
  · intro z
    exact absurd (by decide) z
end
