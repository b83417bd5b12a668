section
variable {d n sl : Nat} {f : Nat → mi_C} {Q : (Option Value ⊕ Nat) → mi_H → Prop}
theorem mp_m1 {x : Int64} : ¬ (0 ≤ x ∧ x ≤ ((0 - 1 : Int32)).toInt64) := by
  intro h
  have h2 := Int64.le_trans h.1 h.2
  exact absurd h2 (by decide)
theorem sr_told {w j : Int32}  (hn : 575 ≤ n) (hP : ∀ q, 505 ≤ q → q < 574 → f q = (mp_hh mp_r2).2.2 q) (k1 : ¬ mp_r w 0 4 → ∀ f', mp_RF 1 f f' → Q (.inl (some (.int 0))) (n, sl, f')) (k2 : mp_r w 0 4 → ∀ f', mp_RF 2 f f' → Q (.inl (some (.int 0))) (n, sl, f')) : mi_W (d + 1) 191 0 (mi_en 3 [.ref 505, .int w, .int j]) [] (n, sl, f) Q := by
  have q505 : f 505 = .inr (12, mp_M) := (hP 505 (by omega) (by omega)).trans mp_q505
  refine b_191_0 _ _ _ (by first | assumption | rfl | (exact Or.inl rfl) | (exact Or.inr rfl) | omega | (exact Nat.le_of_ble_eq_true rfl) | decide | (exact ⟨by decide, rfl, by decide⟩)) (by first | assumption | rfl | (exact Or.inl rfl) | (exact Or.inr rfl) | omega | (exact Nat.le_of_ble_eq_true rfl) | decide | (exact ⟨by decide, rfl, by decide⟩)) (by first | assumption | rfl | (exact Or.inl rfl) | (exact Or.inr rfl) | omega | (exact Nat.le_of_ble_eq_true rfl) | decide | (exact ⟨by decide, rfl, by decide⟩)) ?_
  refine s_in (fun h1 => ?_) (fun h1 => ?_)
  · refine b_191_15 _ _ _ ?_ ?_
    · intro _
      refine b_191_22 _ _ _ ?_
      refine b_191_23 _ _ _ (by first | assumption | rfl | (exact Or.inl rfl) | (exact Or.inr rfl) | omega | (exact Nat.le_of_ble_eq_true rfl) | decide | (exact ⟨by decide, rfl, by decide⟩)) (by first | assumption | rfl | (exact Or.inl rfl) | (exact Or.inr rfl) | omega | (exact Nat.le_of_ble_eq_true rfl) | decide | (exact ⟨by decide, rfl, by decide⟩)) ?_
      refine s_fails0 rfl (by omega) rfl ?_
      refine b_191_27 _ _ _ ?_ ?_
      · intro z
        exact absurd rfl z
      · intro _
        refine b_191_30 _ _ _ ?_ ?_
        · intro _
          refine b_191_46 _ _ _ (by first | assumption | rfl | (exact Or.inl rfl) | (exact Or.inr rfl) | omega | (exact Nat.le_of_ble_eq_true rfl) | decide | (exact ⟨by decide, rfl, by decide⟩)) (by first | assumption | rfl | (exact Or.inl rfl) | (exact Or.inr rfl) | omega | (exact Nat.le_of_ble_eq_true rfl) | decide | (exact ⟨by decide, rfl, by decide⟩)) (by first | assumption | rfl | (exact Or.inl rfl) | (exact Or.inr rfl) | omega | (exact Nat.le_of_ble_eq_true rfl) | decide | (exact ⟨by decide, rfl, by decide⟩)) ?_
          refine b_191_50 _ _ _ ?_
          refine s_in (fun h2 => absurd h2 mp_m1) (fun _ => ?_)
          refine b_191_56 _ _ _ ?_ ?_
          · intro z
            exact absurd rfl z
          · intro _
            refine b_191_59 _ _ _ ?_
            refine b_191_64 _ _ _ (by first | assumption | rfl | (exact Or.inl rfl) | (exact Or.inr rfl) | omega | (exact Nat.le_of_ble_eq_true rfl) | decide | (exact ⟨by decide, rfl, by decide⟩)) (by first | assumption | rfl | (exact Or.inl rfl) | (exact Or.inr rfl) | omega | (exact Nat.le_of_ble_eq_true rfl) | decide | (exact ⟨by decide, rfl, by decide⟩)) ?_
            refine s_fails1 rfl (by omega) rfl (by decide) ?_
            refine b_191_68 _ _ _ ?_ ?_
            · intro z
              exact absurd z (by decide)
            · intro _
              refine b_191_71 _ _ _ ?_
              exact k2 ((mp_r64 (b := 4) rfl).mp h1) _ ⟨⟨_, rfl, rfl⟩, fun q hq => by simp only [va_up]; repeat rw [if_neg (by omega)]⟩
        · intro _
          refine b_191_39 _ _ _ (by first | assumption | rfl | (exact Or.inl rfl) | (exact Or.inr rfl) | omega | (exact Nat.le_of_ble_eq_true rfl) | decide | (exact ⟨by decide, rfl, by decide⟩)) (by first | assumption | rfl | (exact Or.inl rfl) | (exact Or.inr rfl) | omega | (exact Nat.le_of_ble_eq_true rfl) | decide | (exact ⟨by decide, rfl, by decide⟩)) (by first | assumption | rfl | (exact Or.inl rfl) | (exact Or.inr rfl) | omega | (exact Nat.le_of_ble_eq_true rfl) | decide | (exact ⟨by decide, rfl, by decide⟩)) ?_
          refine b_191_50 _ _ _ ?_
          refine s_in (fun h2 => absurd h2 mp_m1) (fun _ => ?_)
          refine b_191_56 _ _ _ ?_ ?_
          · intro z
            exact absurd rfl z
          · intro _
            refine b_191_59 _ _ _ ?_
            refine b_191_64 _ _ _ (by first | assumption | rfl | (exact Or.inl rfl) | (exact Or.inr rfl) | omega | (exact Nat.le_of_ble_eq_true rfl) | decide | (exact ⟨by decide, rfl, by decide⟩)) (by first | assumption | rfl | (exact Or.inl rfl) | (exact Or.inr rfl) | omega | (exact Nat.le_of_ble_eq_true rfl) | decide | (exact ⟨by decide, rfl, by decide⟩)) ?_
            refine s_fails1 rfl (by omega) rfl (by decide) ?_
            refine b_191_68 _ _ _ ?_ ?_
            · intro z
              exact absurd z (by decide)
            · intro _
              refine b_191_71 _ _ _ ?_
              exact k2 ((mp_r64 (b := 4) rfl).mp h1) _ ⟨⟨_, rfl, rfl⟩, fun q hq => by simp only [va_up]; repeat rw [if_neg (by omega)]⟩
    · intro z
      exact absurd (by decide) z
  · refine b_191_15 _ _ _ ?_ ?_
    · intro z
      exact absurd rfl z
    · intro _
      refine b_191_18 _ _ _ ?_
      refine b_191_23 _ _ _ (by first | assumption | rfl | (exact Or.inl rfl) | (exact Or.inr rfl) | omega | (exact Nat.le_of_ble_eq_true rfl) | decide | (exact ⟨by decide, rfl, by decide⟩)) (by first | assumption | rfl | (exact Or.inl rfl) | (exact Or.inr rfl) | omega | (exact Nat.le_of_ble_eq_true rfl) | decide | (exact ⟨by decide, rfl, by decide⟩)) ?_
      refine s_fails1 rfl (by omega) rfl (by decide) ?_
      refine b_191_27 _ _ _ ?_ ?_
      · intro _
        refine b_191_71 _ _ _ ?_
        exact k1 (fun v => h1 ((mp_r64 (b := 4) rfl).mpr v)) _ ⟨⟨_, rfl, rfl⟩, fun q hq => by simp only [va_up]; repeat rw [if_neg (by omega)]⟩
      · intro z
        exact absurd (by decide) z
theorem sr_paid {j : Int32}  (hn : 575 ≤ n) (hP : ∀ q, 505 ≤ q → q < 574 → f q = (mp_hh mp_r2).2.2 q) (k1 : ∀ f', mp_RF 1 f f' → Q (.inl (some (.long 0))) (n, sl, f')) : mi_W (d + 1) 192 0 (mi_en 2 [.ref 505, .int j]) [] (n, sl, f) Q := by
  have q505 : f 505 = .inr (12, mp_M) := (hP 505 (by omega) (by omega)).trans mp_q505
  refine b_192_0 _ _ _ (by first | assumption | rfl | (exact Or.inl rfl) | (exact Or.inr rfl) | omega | (exact Nat.le_of_ble_eq_true rfl) | decide | (exact ⟨by decide, rfl, by decide⟩)) (by first | assumption | rfl | (exact Or.inl rfl) | (exact Or.inr rfl) | omega | (exact Nat.le_of_ble_eq_true rfl) | decide | (exact ⟨by decide, rfl, by decide⟩)) (by first | assumption | rfl | (exact Or.inl rfl) | (exact Or.inr rfl) | omega | (exact Nat.le_of_ble_eq_true rfl) | decide | (exact ⟨by decide, rfl, by decide⟩)) (by first | assumption | rfl | (exact Or.inl rfl) | (exact Or.inr rfl) | omega | (exact Nat.le_of_ble_eq_true rfl) | decide | (exact ⟨by decide, rfl, by decide⟩)) (by first | assumption | rfl | (exact Or.inl rfl) | (exact Or.inr rfl) | omega | (exact Nat.le_of_ble_eq_true rfl) | decide | (exact ⟨by decide, rfl, by decide⟩)) (by first | assumption | rfl | (exact Or.inl rfl) | (exact Or.inr rfl) | omega | (exact Nat.le_of_ble_eq_true rfl) | decide | (exact ⟨by decide, rfl, by decide⟩)) ?_
  refine s_in (fun h2 => absurd h2 mp_m1) (fun _ => ?_)
  refine b_192_19 _ _ _ ?_ ?_
  · intro z
    exact absurd rfl z
  · intro _
    refine b_192_22 _ _ _ ?_
    refine b_192_27 _ _ _ (by first | assumption | rfl | (exact Or.inl rfl) | (exact Or.inr rfl) | omega | (exact Nat.le_of_ble_eq_true rfl) | decide | (exact ⟨by decide, rfl, by decide⟩)) (by first | assumption | rfl | (exact Or.inl rfl) | (exact Or.inr rfl) | omega | (exact Nat.le_of_ble_eq_true rfl) | decide | (exact ⟨by decide, rfl, by decide⟩)) ?_
    refine s_fails1 rfl (by omega) rfl (by decide) ?_
    refine b_192_31 _ _ _ ?_ ?_
    · intro z
      exact absurd z (by decide)
    · intro _
      refine b_192_34 _ _ _ ?_
      refine b_192_44 _ _ _ ?_
      exact k1 _ ⟨⟨_, rfl, rfl⟩, fun q hq => by simp only [va_up]; repeat rw [if_neg (by omega)]⟩
theorem sr_state {w p t : Int32}  (hn : 575 ≤ n) (hP : ∀ q, 505 ≤ q → q < 574 → f q = (mp_hh mp_r2).2.2 q) (k1 : ¬ mp_V3 w p t → ∀ f', mp_RF 1 f f' → Q (.inl (some (.long 0))) (n, sl, f')) (k0 : mp_V3 w p t → w = 1 → ∀ f', mp_RF 0 f f' → Q (.inl (some (.long 0))) (n, sl, f')) (k2 : mp_V3 w p t → ¬ w = 1 → ∀ f', mp_RF 2 f f' → Q (.inl (some (.long 0))) (n, sl, f')) : mi_W (d + 1) 193 0 (mi_en 4 [.ref 505, .int w, .int p, .int t]) [] (n, sl, f) Q := by
  have q505 : f 505 = .inr (12, mp_M) := (hP 505 (by omega) (by omega)).trans mp_q505
  obtain ⟨g550, q550, z550⟩ : ∃ g, f 550 = .inl (3, 32, .inr (.inl g)) ∧ ∀ j, j < 32 → g j = 0 := by
    rw [hP 550 (by omega) (by omega)]
    exact mp_q550
  refine b_193_0 _ _ _ (by first | assumption | rfl | (exact Or.inl rfl) | (exact Or.inr rfl) | omega | (exact Nat.le_of_ble_eq_true rfl) | decide | (exact ⟨by decide, rfl, by decide⟩)) (by first | assumption | rfl | (exact Or.inl rfl) | (exact Or.inr rfl) | omega | (exact Nat.le_of_ble_eq_true rfl) | decide | (exact ⟨by decide, rfl, by decide⟩)) (by first | assumption | rfl | (exact Or.inl rfl) | (exact Or.inr rfl) | omega | (exact Nat.le_of_ble_eq_true rfl) | decide | (exact ⟨by decide, rfl, by decide⟩)) ?_
  refine s_in (fun h1 => ?_) (fun h1 => ?_)
  · refine b_193_15 _ _ _ ?_ ?_
    · intro z
      exact absurd z (by decide)
    · intro _
      refine b_193_18 _ _ _ ?_
      refine s_in (fun h2 => ?_) (fun h2 => ?_)
      · refine b_193_27 _ _ _ ?_ ?_
        · intro z
          exact absurd z (by decide)
        · intro _
          refine b_193_30 _ _ _ ?_
          refine s_in (fun h3 => ?_) (fun h3 => ?_)
          · refine b_193_39 _ _ _ ?_ ?_
            · intro _
              refine b_193_46 _ _ _ ?_
              refine b_193_47 _ _ _ (by first | assumption | rfl | (exact Or.inl rfl) | (exact Or.inr rfl) | omega | (exact Nat.le_of_ble_eq_true rfl) | decide | (exact ⟨by decide, rfl, by decide⟩)) (by first | assumption | rfl | (exact Or.inl rfl) | (exact Or.inr rfl) | omega | (exact Nat.le_of_ble_eq_true rfl) | decide | (exact ⟨by decide, rfl, by decide⟩)) ?_
              refine s_fails0 rfl (by omega) rfl ?_
              refine b_193_51 _ _ _ ?_ ?_
              · intro z
                exact absurd rfl z
              · intro _
                have hv : mp_V3 w p t := ⟨(mp_r64 (b := 4) rfl).mp h1, (mp_r64 (b := 7) rfl).mp h2, (mp_r64 (b := 3) rfl).mp h3⟩
                refine b_193_54 _ _ _ ?_ ?_
                · intro e
                  subst e
                  refine b_193_71 _ _ _ ?_
                  refine b_193_72 _ _ _ (by first | assumption | rfl | (exact Or.inl rfl) | (exact Or.inr rfl) | omega | (exact Nat.le_of_ble_eq_true rfl) | decide | (exact ⟨by decide, rfl, by decide⟩)) (by first | assumption | rfl | (exact Or.inl rfl) | (exact Or.inr rfl) | omega | (exact Nat.le_of_ble_eq_true rfl) | decide | (exact ⟨by decide, rfl, by decide⟩)) ?_
                  refine s_fails0 rfl (by omega) rfl ?_
                  refine b_193_76 _ _ _ ?_ ?_
                  · intro _
                    obtain ⟨-, i, hi⟩ := mp_ix4 hv.2.1 hv.2.2
                    refine b_193_81 _ _ _ (t5 := 126) (by decide +kernel) ?_
                    refine b_193_126 _ _ _ _ _ _ (by first | assumption | rfl | (exact Or.inl rfl) | (exact Or.inr rfl) | omega | (exact Nat.le_of_ble_eq_true rfl) | decide | (exact ⟨by decide, rfl, by decide⟩)) (by first | assumption | rfl | (exact Or.inl rfl) | (exact Or.inr rfl) | omega | (exact Nat.le_of_ble_eq_true rfl) | decide | (exact ⟨by decide, rfl, by decide⟩)) (by first | assumption | rfl | (exact Or.inl rfl) | (exact Or.inr rfl) | omega | (exact Nat.le_of_ble_eq_true rfl) | decide | (exact ⟨by decide, rfl, by decide⟩)) (by first | assumption | rfl | (exact Or.inl rfl) | (exact Or.inr rfl) | omega | (exact Nat.le_of_ble_eq_true rfl) | decide | (exact ⟨by decide, rfl, by decide⟩)) (by first | assumption | rfl | (exact Or.inl rfl) | (exact Or.inr rfl) | omega | (exact Nat.le_of_ble_eq_true rfl) | decide | (exact ⟨by decide, rfl, by decide⟩)) (by first | assumption | rfl | (exact Or.inl rfl) | (exact Or.inr rfl) | omega | (exact Nat.le_of_ble_eq_true rfl) | decide | (exact ⟨by decide, rfl, by decide⟩)) ?_
                    rw [z550 i hi.2.2]
                    exact k0 hv rfl _ ⟨⟨_, rfl, rfl⟩, fun q hq => by simp only [va_up]; repeat rw [if_neg (by omega)]⟩
                  · intro z
                    exact absurd rfl z
                · intro e
                  refine b_193_60 _ _ _ (by first | assumption | rfl | (exact Or.inl rfl) | (exact Or.inr rfl) | omega | (exact Nat.le_of_ble_eq_true rfl) | decide | (exact ⟨by decide, rfl, by decide⟩)) (by first | assumption | rfl | (exact Or.inl rfl) | (exact Or.inr rfl) | omega | (exact Nat.le_of_ble_eq_true rfl) | decide | (exact ⟨by decide, rfl, by decide⟩)) (by first | assumption | rfl | (exact Or.inl rfl) | (exact Or.inr rfl) | omega | (exact Nat.le_of_ble_eq_true rfl) | decide | (exact ⟨by decide, rfl, by decide⟩)) ?_ ?_
                  · intro z
                    exact absurd z (by decide)
                  · intro _
                    refine b_193_67 _ _ _ ?_
                    refine b_193_72 _ _ _ (by first | assumption | rfl | (exact Or.inl rfl) | (exact Or.inr rfl) | omega | (exact Nat.le_of_ble_eq_true rfl) | decide | (exact ⟨by decide, rfl, by decide⟩)) (by first | assumption | rfl | (exact Or.inl rfl) | (exact Or.inr rfl) | omega | (exact Nat.le_of_ble_eq_true rfl) | decide | (exact ⟨by decide, rfl, by decide⟩)) ?_
                    refine s_fails1 rfl (by omega) rfl (by decide) ?_
                    refine b_193_76 _ _ _ ?_ ?_
                    · intro z
                      exact absurd z (by decide)
                    · intro _
                      refine b_193_79 _ _ _ ?_
                      exact k2 hv e _ ⟨⟨_, rfl, rfl⟩, fun q hq => by simp only [va_up]; repeat rw [if_neg (by omega)]⟩
            · intro z
              exact absurd (by decide) z
          · refine b_193_39 _ _ _ ?_ ?_
            · intro z
              exact absurd rfl z
            · intro _
              refine b_193_42 _ _ _ ?_
              refine b_193_47 _ _ _ (by first | assumption | rfl | (exact Or.inl rfl) | (exact Or.inr rfl) | omega | (exact Nat.le_of_ble_eq_true rfl) | decide | (exact ⟨by decide, rfl, by decide⟩)) (by first | assumption | rfl | (exact Or.inl rfl) | (exact Or.inr rfl) | omega | (exact Nat.le_of_ble_eq_true rfl) | decide | (exact ⟨by decide, rfl, by decide⟩)) ?_
              refine s_fails1 rfl (by omega) rfl (by decide) ?_
              refine b_193_51 _ _ _ ?_ ?_
              · intro _
                refine b_193_79 _ _ _ ?_
                exact k1 (fun v => h3 ((mp_r64 (b := 3) rfl).mpr v.2.2)) _ ⟨⟨_, rfl, rfl⟩, fun q hq => by simp only [va_up]; repeat rw [if_neg (by omega)]⟩
              · intro z
                exact absurd (by decide) z
      · refine b_193_27 _ _ _ ?_ ?_
        · intro _
          refine b_193_42 _ _ _ ?_
          refine b_193_47 _ _ _ (by first | assumption | rfl | (exact Or.inl rfl) | (exact Or.inr rfl) | omega | (exact Nat.le_of_ble_eq_true rfl) | decide | (exact ⟨by decide, rfl, by decide⟩)) (by first | assumption | rfl | (exact Or.inl rfl) | (exact Or.inr rfl) | omega | (exact Nat.le_of_ble_eq_true rfl) | decide | (exact ⟨by decide, rfl, by decide⟩)) ?_
          refine s_fails1 rfl (by omega) rfl (by decide) ?_
          refine b_193_51 _ _ _ ?_ ?_
          · intro _
            refine b_193_79 _ _ _ ?_
            exact k1 (fun v => h2 ((mp_r64 (b := 7) rfl).mpr v.2.1)) _ ⟨⟨_, rfl, rfl⟩, fun q hq => by simp only [va_up]; repeat rw [if_neg (by omega)]⟩
          · intro z
            exact absurd (by decide) z
        · intro z
          exact absurd rfl z
  · refine b_193_15 _ _ _ ?_ ?_
    · intro _
      refine b_193_42 _ _ _ ?_
      refine b_193_47 _ _ _ (by first | assumption | rfl | (exact Or.inl rfl) | (exact Or.inr rfl) | omega | (exact Nat.le_of_ble_eq_true rfl) | decide | (exact ⟨by decide, rfl, by decide⟩)) (by first | assumption | rfl | (exact Or.inl rfl) | (exact Or.inr rfl) | omega | (exact Nat.le_of_ble_eq_true rfl) | decide | (exact ⟨by decide, rfl, by decide⟩)) ?_
      refine s_fails1 rfl (by omega) rfl (by decide) ?_
      refine b_193_51 _ _ _ ?_ ?_
      · intro _
        refine b_193_79 _ _ _ ?_
        exact k1 (fun v => h1 ((mp_r64 (b := 4) rfl).mpr v.1)) _ ⟨⟨_, rfl, rfl⟩, fun q hq => by simp only [va_up]; repeat rw [if_neg (by omega)]⟩
      · intro z
        exact absurd (by decide) z
    · intro z
      exact absurd rfl z
theorem sr_analyse   (hn : 575 ≤ n) (hP : ∀ q, 505 ≤ q → q < 574 → f q = (mp_hh mp_r2).2.2 q) (k1 : ∀ f', mp_RF 1 f f' → Q (.inl (some (.int 0))) (n, sl, f')) : mi_W (d + 1) 194 0 (mi_en 4 [.ref 505]) [] (n, sl, f) Q := by
  have q505 : f 505 = .inr (12, mp_M) := (hP 505 (by omega) (by omega)).trans mp_q505
  refine b_194_0 _ _ _ (by first | assumption | rfl | (exact Or.inl rfl) | (exact Or.inr rfl) | omega | (exact Nat.le_of_ble_eq_true rfl) | decide | (exact ⟨by decide, rfl, by decide⟩)) (by first | assumption | rfl | (exact Or.inl rfl) | (exact Or.inr rfl) | omega | (exact Nat.le_of_ble_eq_true rfl) | decide | (exact ⟨by decide, rfl, by decide⟩)) (by first | assumption | rfl | (exact Or.inl rfl) | (exact Or.inr rfl) | omega | (exact Nat.le_of_ble_eq_true rfl) | decide | (exact ⟨by decide, rfl, by decide⟩)) (by first | assumption | rfl | (exact Or.inl rfl) | (exact Or.inr rfl) | omega | (exact Nat.le_of_ble_eq_true rfl) | decide | (exact ⟨by decide, rfl, by decide⟩)) (by first | assumption | rfl | (exact Or.inl rfl) | (exact Or.inr rfl) | omega | (exact Nat.le_of_ble_eq_true rfl) | decide | (exact ⟨by decide, rfl, by decide⟩)) (by first | assumption | rfl | (exact Or.inl rfl) | (exact Or.inr rfl) | omega | (exact Nat.le_of_ble_eq_true rfl) | decide | (exact ⟨by decide, rfl, by decide⟩)) ?_ ?_
  · intro z
    exact absurd z (by decide)
  · intro _
    refine b_194_13 _ _ _ ?_
    refine b_194_18 _ _ _ (by first | assumption | rfl | (exact Or.inl rfl) | (exact Or.inr rfl) | omega | (exact Nat.le_of_ble_eq_true rfl) | decide | (exact ⟨by decide, rfl, by decide⟩)) (by first | assumption | rfl | (exact Or.inl rfl) | (exact Or.inr rfl) | omega | (exact Nat.le_of_ble_eq_true rfl) | decide | (exact ⟨by decide, rfl, by decide⟩)) ?_
    refine s_fails1 rfl (by omega) rfl (by decide) ?_
    refine b_194_22 _ _ _ ?_ ?_
    · intro z
      exact absurd z (by decide)
    · intro _
      refine b_194_25 _ _ _ ?_
      exact k1 _ ⟨⟨_, rfl, rfl⟩, fun q hq => by simp only [va_up]; repeat rw [if_neg (by omega)]⟩
theorem sr_apply {a b : Int64}  (hn : 575 ≤ n) (hP : ∀ q, 505 ≤ q → q < 574 → f q = (mp_hh mp_r2).2.2 q) (k1 : ∀ f', mp_RF 1 f f' → Q (.inl (some (.int 0))) (n, sl, f')) : mi_W (d + 1) 172 0 (mi_en 7 [.ref 505, .long a, .long b]) [] (n, sl, f) Q := by
  have q505 : f 505 = .inr (12, mp_M) := (hP 505 (by omega) (by omega)).trans mp_q505
  refine b_172_0 _ _ _ (by first | assumption | rfl | (exact Or.inl rfl) | (exact Or.inr rfl) | omega | (exact Nat.le_of_ble_eq_true rfl) | decide | (exact ⟨by decide, rfl, by decide⟩)) (by first | assumption | rfl | (exact Or.inl rfl) | (exact Or.inr rfl) | omega | (exact Nat.le_of_ble_eq_true rfl) | decide | (exact ⟨by decide, rfl, by decide⟩)) (by first | assumption | rfl | (exact Or.inl rfl) | (exact Or.inr rfl) | omega | (exact Nat.le_of_ble_eq_true rfl) | decide | (exact ⟨by decide, rfl, by decide⟩)) (by first | assumption | rfl | (exact Or.inl rfl) | (exact Or.inr rfl) | omega | (exact Nat.le_of_ble_eq_true rfl) | decide | (exact ⟨by decide, rfl, by decide⟩)) (by first | assumption | rfl | (exact Or.inl rfl) | (exact Or.inr rfl) | omega | (exact Nat.le_of_ble_eq_true rfl) | decide | (exact ⟨by decide, rfl, by decide⟩)) (by first | assumption | rfl | (exact Or.inl rfl) | (exact Or.inr rfl) | omega | (exact Nat.le_of_ble_eq_true rfl) | decide | (exact ⟨by decide, rfl, by decide⟩)) ?_ ?_
  · intro z
    exact absurd z (by decide)
  · intro _
    refine b_172_13 _ _ _ ?_
    refine b_172_18 _ _ _ (by first | assumption | rfl | (exact Or.inl rfl) | (exact Or.inr rfl) | omega | (exact Nat.le_of_ble_eq_true rfl) | decide | (exact ⟨by decide, rfl, by decide⟩)) (by first | assumption | rfl | (exact Or.inl rfl) | (exact Or.inr rfl) | omega | (exact Nat.le_of_ble_eq_true rfl) | decide | (exact ⟨by decide, rfl, by decide⟩)) ?_
    refine s_fails1 rfl (by omega) rfl (by decide) ?_
    refine b_172_22 _ _ _ ?_ ?_
    · intro z
      exact absurd z (by decide)
    · intro _
      refine b_172_25 _ _ _ ?_
      exact k1 _ ⟨⟨_, rfl, rfl⟩, fun q hq => by simp only [va_up]; repeat rw [if_neg (by omega)]⟩
theorem sr_step {j w : Int32}  (hn : 575 ≤ n) (hP : ∀ q, 505 ≤ q → q < 574 → f q = (mp_hh mp_r2).2.2 q) (k1 : ¬ mp_r w 0 2 → ∀ f', mp_RF 1 f f' → Q (.inl (some (.long 0))) (n, sl, f')) (k2 : mp_r w 0 2 → ∀ f', mp_RF 2 f f' → Q (.inl (some (.long 0))) (n, sl, f')) : mi_W (d + 1) 202 0 (mi_en 3 [.ref 505, .int j, .int w]) [] (n, sl, f) Q := by
  have q505 : f 505 = .inr (12, mp_M) := (hP 505 (by omega) (by omega)).trans mp_q505
  refine b_202_0 _ _ _ (by first | assumption | rfl | (exact Or.inl rfl) | (exact Or.inr rfl) | omega | (exact Nat.le_of_ble_eq_true rfl) | decide | (exact ⟨by decide, rfl, by decide⟩)) (by first | assumption | rfl | (exact Or.inl rfl) | (exact Or.inr rfl) | omega | (exact Nat.le_of_ble_eq_true rfl) | decide | (exact ⟨by decide, rfl, by decide⟩)) (by first | assumption | rfl | (exact Or.inl rfl) | (exact Or.inr rfl) | omega | (exact Nat.le_of_ble_eq_true rfl) | decide | (exact ⟨by decide, rfl, by decide⟩)) ?_
  refine s_in (fun h1 => ?_) (fun h1 => ?_)
  · refine b_202_15 _ _ _ ?_ ?_
    · intro _
      refine b_202_22 _ _ _ ?_
      refine b_202_23 _ _ _ (by first | assumption | rfl | (exact Or.inl rfl) | (exact Or.inr rfl) | omega | (exact Nat.le_of_ble_eq_true rfl) | decide | (exact ⟨by decide, rfl, by decide⟩)) (by first | assumption | rfl | (exact Or.inl rfl) | (exact Or.inr rfl) | omega | (exact Nat.le_of_ble_eq_true rfl) | decide | (exact ⟨by decide, rfl, by decide⟩)) ?_
      refine s_fails0 rfl (by omega) rfl ?_
      refine b_202_27 _ _ _ ?_ ?_
      · intro z
        exact absurd rfl z
      · intro _
        refine b_202_30 _ _ _ (by first | assumption | rfl | (exact Or.inl rfl) | (exact Or.inr rfl) | omega | (exact Nat.le_of_ble_eq_true rfl) | decide | (exact ⟨by decide, rfl, by decide⟩)) (by first | assumption | rfl | (exact Or.inl rfl) | (exact Or.inr rfl) | omega | (exact Nat.le_of_ble_eq_true rfl) | decide | (exact ⟨by decide, rfl, by decide⟩)) (by first | assumption | rfl | (exact Or.inl rfl) | (exact Or.inr rfl) | omega | (exact Nat.le_of_ble_eq_true rfl) | decide | (exact ⟨by decide, rfl, by decide⟩)) ?_
        refine s_in (fun h2 => absurd h2 mp_m1) (fun _ => ?_)
        refine b_202_44 _ _ _ ?_ ?_
        · intro z
          exact absurd rfl z
        · intro _
          refine b_202_47 _ _ _ ?_
          refine b_202_52 _ _ _ (by first | assumption | rfl | (exact Or.inl rfl) | (exact Or.inr rfl) | omega | (exact Nat.le_of_ble_eq_true rfl) | decide | (exact ⟨by decide, rfl, by decide⟩)) (by first | assumption | rfl | (exact Or.inl rfl) | (exact Or.inr rfl) | omega | (exact Nat.le_of_ble_eq_true rfl) | decide | (exact ⟨by decide, rfl, by decide⟩)) ?_
          refine s_fails1 rfl (by omega) rfl (by decide) ?_
          refine b_202_56 _ _ _ ?_ ?_
          · intro z
            exact absurd z (by decide)
          · intro _
            refine b_202_59 _ _ _ ?_
            exact k2 ((mp_r64 (b := 2) rfl).mp h1) _ ⟨⟨_, rfl, rfl⟩, fun q hq => by simp only [va_up]; repeat rw [if_neg (by omega)]⟩
    · intro z
      exact absurd (by decide) z
  · refine b_202_15 _ _ _ ?_ ?_
    · intro z
      exact absurd rfl z
    · intro _
      refine b_202_18 _ _ _ ?_
      refine b_202_23 _ _ _ (by first | assumption | rfl | (exact Or.inl rfl) | (exact Or.inr rfl) | omega | (exact Nat.le_of_ble_eq_true rfl) | decide | (exact ⟨by decide, rfl, by decide⟩)) (by first | assumption | rfl | (exact Or.inl rfl) | (exact Or.inr rfl) | omega | (exact Nat.le_of_ble_eq_true rfl) | decide | (exact ⟨by decide, rfl, by decide⟩)) ?_
      refine s_fails1 rfl (by omega) rfl (by decide) ?_
      refine b_202_27 _ _ _ ?_ ?_
      · intro _
        refine b_202_59 _ _ _ ?_
        exact k1 (fun v => h1 ((mp_r64 (b := 2) rfl).mpr v)) _ ⟨⟨_, rfl, rfl⟩, fun q hq => by simp only [va_up]; repeat rw [if_neg (by omega)]⟩
      · intro z
        exact absurd (by decide) z
theorem sr_count {w : Int32}  (hn : 575 ≤ n) (hP : ∀ q, 505 ≤ q → q < 574 → f q = (mp_hh mp_r2).2.2 q) (k1 : ¬ mp_r w 0 10 → ∀ f', mp_RF 1 f f' → Q (.inl (some (.int 0))) (n, sl, f')) (k0 : mp_r w 0 10 → ∀ f', mp_RF 0 f f' → Q (.inl (some (.int (if w = 0 then -1 else 0)))) (n, sl, f')) : mi_W (d + 1) 203 0 (mi_en 2 [.ref 505, .int w]) [] (n, sl, f) Q := by
  have q505 : f 505 = .inr (12, mp_M) := (hP 505 (by omega) (by omega)).trans mp_q505
  refine b_203_0 _ _ _ (by first | assumption | rfl | (exact Or.inl rfl) | (exact Or.inr rfl) | omega | (exact Nat.le_of_ble_eq_true rfl) | decide | (exact ⟨by decide, rfl, by decide⟩)) (by first | assumption | rfl | (exact Or.inl rfl) | (exact Or.inr rfl) | omega | (exact Nat.le_of_ble_eq_true rfl) | decide | (exact ⟨by decide, rfl, by decide⟩)) (by first | assumption | rfl | (exact Or.inl rfl) | (exact Or.inr rfl) | omega | (exact Nat.le_of_ble_eq_true rfl) | decide | (exact ⟨by decide, rfl, by decide⟩)) ?_
  refine s_in (fun h1 => ?_) (fun h1 => ?_)
  · refine b_203_15 _ _ _ ?_ ?_
    · intro _
      refine b_203_22 _ _ _ ?_
      refine b_203_23 _ _ _ (by first | assumption | rfl | (exact Or.inl rfl) | (exact Or.inr rfl) | omega | (exact Nat.le_of_ble_eq_true rfl) | decide | (exact ⟨by decide, rfl, by decide⟩)) (by first | assumption | rfl | (exact Or.inl rfl) | (exact Or.inr rfl) | omega | (exact Nat.le_of_ble_eq_true rfl) | decide | (exact ⟨by decide, rfl, by decide⟩)) ?_
      refine s_fails0 rfl (by omega) rfl ?_
      refine b_203_27 _ _ _ ?_ ?_
      · intro _
        have hr := (mp_r64 (b := 10) rfl).mp h1
        have k0 := k0 hr
        rcases mp_11 hr with rfl | rfl | rfl | rfl | rfl | rfl | rfl | rfl | rfl | rfl | rfl
        · refine b_203_32 _ _ _ ?_ ?_
          · intro z
            exact absurd z (by decide)
          · intro _
            refine b_203_38 _ _ _ (by first | assumption | rfl | (exact Or.inl rfl) | (exact Or.inr rfl) | omega | (exact Nat.le_of_ble_eq_true rfl) | decide | (exact ⟨by decide, rfl, by decide⟩)) (by first | assumption | rfl | (exact Or.inl rfl) | (exact Or.inr rfl) | omega | (exact Nat.le_of_ble_eq_true rfl) | decide | (exact ⟨by decide, rfl, by decide⟩)) (by first | assumption | rfl | (exact Or.inl rfl) | (exact Or.inr rfl) | omega | (exact Nat.le_of_ble_eq_true rfl) | decide | (exact ⟨by decide, rfl, by decide⟩)) ?_ ?_
            · intro z
              exact absurd z (by decide)
            · intro _
              refine b_203_45 _ _ _ ?_ ?_
              · intro z
                exact absurd rfl z
              · intro _
                refine b_203_49 _ _ _ ?_
                refine b_203_54 _ _ _ ?_
                exact k0 _ ⟨⟨_, rfl, rfl⟩, fun q hq => by simp only [va_up]; repeat rw [if_neg (by omega)]⟩
        · refine b_203_32 _ _ _ ?_ ?_
          · intro z
            exact absurd z (by decide)
          · intro _
            refine b_203_38 _ _ _ (by first | assumption | rfl | (exact Or.inl rfl) | (exact Or.inr rfl) | omega | (exact Nat.le_of_ble_eq_true rfl) | decide | (exact ⟨by decide, rfl, by decide⟩)) (by first | assumption | rfl | (exact Or.inl rfl) | (exact Or.inr rfl) | omega | (exact Nat.le_of_ble_eq_true rfl) | decide | (exact ⟨by decide, rfl, by decide⟩)) (by first | assumption | rfl | (exact Or.inl rfl) | (exact Or.inr rfl) | omega | (exact Nat.le_of_ble_eq_true rfl) | decide | (exact ⟨by decide, rfl, by decide⟩)) ?_ ?_
            · intro z
              exact absurd z (by decide)
            · intro _
              refine b_203_45 _ _ _ ?_ ?_
              · intro _
                refine b_203_53 _ _ _ ?_
                refine b_203_54 _ _ _ ?_
                exact k0 _ ⟨⟨_, rfl, rfl⟩, fun q hq => by simp only [va_up]; repeat rw [if_neg (by omega)]⟩
              · intro z
                exact absurd (by decide) z
        · refine b_203_32 _ _ _ ?_ ?_
          · intro z
            exact absurd z (by decide)
          · intro _
            refine b_203_38 _ _ _ (by first | assumption | rfl | (exact Or.inl rfl) | (exact Or.inr rfl) | omega | (exact Nat.le_of_ble_eq_true rfl) | decide | (exact ⟨by decide, rfl, by decide⟩)) (by first | assumption | rfl | (exact Or.inl rfl) | (exact Or.inr rfl) | omega | (exact Nat.le_of_ble_eq_true rfl) | decide | (exact ⟨by decide, rfl, by decide⟩)) (by first | assumption | rfl | (exact Or.inl rfl) | (exact Or.inr rfl) | omega | (exact Nat.le_of_ble_eq_true rfl) | decide | (exact ⟨by decide, rfl, by decide⟩)) ?_ ?_
            · intro z
              exact absurd z (by decide)
            · intro _
              refine b_203_45 _ _ _ ?_ ?_
              · intro _
                refine b_203_53 _ _ _ ?_
                refine b_203_54 _ _ _ ?_
                exact k0 _ ⟨⟨_, rfl, rfl⟩, fun q hq => by simp only [va_up]; repeat rw [if_neg (by omega)]⟩
              · intro z
                exact absurd (by decide) z
        · refine b_203_32 _ _ _ ?_ ?_
          · intro z
            exact absurd z (by decide)
          · intro _
            refine b_203_38 _ _ _ (by first | assumption | rfl | (exact Or.inl rfl) | (exact Or.inr rfl) | omega | (exact Nat.le_of_ble_eq_true rfl) | decide | (exact ⟨by decide, rfl, by decide⟩)) (by first | assumption | rfl | (exact Or.inl rfl) | (exact Or.inr rfl) | omega | (exact Nat.le_of_ble_eq_true rfl) | decide | (exact ⟨by decide, rfl, by decide⟩)) (by first | assumption | rfl | (exact Or.inl rfl) | (exact Or.inr rfl) | omega | (exact Nat.le_of_ble_eq_true rfl) | decide | (exact ⟨by decide, rfl, by decide⟩)) ?_ ?_
            · intro z
              exact absurd z (by decide)
            · intro _
              refine b_203_45 _ _ _ ?_ ?_
              · intro _
                refine b_203_53 _ _ _ ?_
                refine b_203_54 _ _ _ ?_
                exact k0 _ ⟨⟨_, rfl, rfl⟩, fun q hq => by simp only [va_up]; repeat rw [if_neg (by omega)]⟩
              · intro z
                exact absurd (by decide) z
        · refine b_203_32 _ _ _ ?_ ?_
          · intro z
            exact absurd z (by decide)
          · intro _
            refine b_203_38 _ _ _ (by first | assumption | rfl | (exact Or.inl rfl) | (exact Or.inr rfl) | omega | (exact Nat.le_of_ble_eq_true rfl) | decide | (exact ⟨by decide, rfl, by decide⟩)) (by first | assumption | rfl | (exact Or.inl rfl) | (exact Or.inr rfl) | omega | (exact Nat.le_of_ble_eq_true rfl) | decide | (exact ⟨by decide, rfl, by decide⟩)) (by first | assumption | rfl | (exact Or.inl rfl) | (exact Or.inr rfl) | omega | (exact Nat.le_of_ble_eq_true rfl) | decide | (exact ⟨by decide, rfl, by decide⟩)) ?_ ?_
            · intro z
              exact absurd z (by decide)
            · intro _
              refine b_203_45 _ _ _ ?_ ?_
              · intro _
                refine b_203_53 _ _ _ ?_
                refine b_203_54 _ _ _ ?_
                exact k0 _ ⟨⟨_, rfl, rfl⟩, fun q hq => by simp only [va_up]; repeat rw [if_neg (by omega)]⟩
              · intro z
                exact absurd (by decide) z
        · refine b_203_32 _ _ _ ?_ ?_
          · intro z
            exact absurd z (by decide)
          · intro _
            refine b_203_38 _ _ _ (by first | assumption | rfl | (exact Or.inl rfl) | (exact Or.inr rfl) | omega | (exact Nat.le_of_ble_eq_true rfl) | decide | (exact ⟨by decide, rfl, by decide⟩)) (by first | assumption | rfl | (exact Or.inl rfl) | (exact Or.inr rfl) | omega | (exact Nat.le_of_ble_eq_true rfl) | decide | (exact ⟨by decide, rfl, by decide⟩)) (by first | assumption | rfl | (exact Or.inl rfl) | (exact Or.inr rfl) | omega | (exact Nat.le_of_ble_eq_true rfl) | decide | (exact ⟨by decide, rfl, by decide⟩)) ?_ ?_
            · intro z
              exact absurd z (by decide)
            · intro _
              refine b_203_45 _ _ _ ?_ ?_
              · intro _
                refine b_203_53 _ _ _ ?_
                refine b_203_54 _ _ _ ?_
                exact k0 _ ⟨⟨_, rfl, rfl⟩, fun q hq => by simp only [va_up]; repeat rw [if_neg (by omega)]⟩
              · intro z
                exact absurd (by decide) z
        · refine b_203_32 _ _ _ ?_ ?_
          · intro _
            refine b_203_55 _ _ _ (t3 := 145) (by decide +kernel) ?_
            refine b_203_145 _ _ _ (by first | assumption | rfl | (exact Or.inl rfl) | (exact Or.inr rfl) | omega | (exact Nat.le_of_ble_eq_true rfl) | decide | (exact ⟨by decide, rfl, by decide⟩)) (by first | assumption | rfl | (exact Or.inl rfl) | (exact Or.inr rfl) | omega | (exact Nat.le_of_ble_eq_true rfl) | decide | (exact ⟨by decide, rfl, by decide⟩)) (by first | assumption | rfl | (exact Or.inl rfl) | (exact Or.inr rfl) | omega | (exact Nat.le_of_ble_eq_true rfl) | decide | (exact ⟨by decide, rfl, by decide⟩)) ?_
            exact k0 _ ⟨⟨_, rfl, rfl⟩, fun q hq => by simp only [va_up]; repeat rw [if_neg (by omega)]⟩
          · intro z
            exact absurd (by decide) z
        · refine b_203_32 _ _ _ ?_ ?_
          · intro _
            refine b_203_55 _ _ _ (t3 := 150) (by decide +kernel) ?_
            refine b_203_150 _ _ _ (by first | assumption | rfl | (exact Or.inl rfl) | (exact Or.inr rfl) | omega | (exact Nat.le_of_ble_eq_true rfl) | decide | (exact ⟨by decide, rfl, by decide⟩)) (by first | assumption | rfl | (exact Or.inl rfl) | (exact Or.inr rfl) | omega | (exact Nat.le_of_ble_eq_true rfl) | decide | (exact ⟨by decide, rfl, by decide⟩)) (by first | assumption | rfl | (exact Or.inl rfl) | (exact Or.inr rfl) | omega | (exact Nat.le_of_ble_eq_true rfl) | decide | (exact ⟨by decide, rfl, by decide⟩)) ?_
            exact k0 _ ⟨⟨_, rfl, rfl⟩, fun q hq => by simp only [va_up]; repeat rw [if_neg (by omega)]⟩
          · intro z
            exact absurd (by decide) z
        · refine b_203_32 _ _ _ ?_ ?_
          · intro _
            refine b_203_55 _ _ _ (t3 := 155) (by decide +kernel) ?_
            refine b_203_155 _ _ _ (by first | assumption | rfl | (exact Or.inl rfl) | (exact Or.inr rfl) | omega | (exact Nat.le_of_ble_eq_true rfl) | decide | (exact ⟨by decide, rfl, by decide⟩)) (by first | assumption | rfl | (exact Or.inl rfl) | (exact Or.inr rfl) | omega | (exact Nat.le_of_ble_eq_true rfl) | decide | (exact ⟨by decide, rfl, by decide⟩)) (by first | assumption | rfl | (exact Or.inl rfl) | (exact Or.inr rfl) | omega | (exact Nat.le_of_ble_eq_true rfl) | decide | (exact ⟨by decide, rfl, by decide⟩)) ?_
            exact k0 _ ⟨⟨_, rfl, rfl⟩, fun q hq => by simp only [va_up]; repeat rw [if_neg (by omega)]⟩
          · intro z
            exact absurd (by decide) z
        · refine b_203_32 _ _ _ ?_ ?_
          · intro _
            refine b_203_55 _ _ _ (t3 := 160) (by decide +kernel) ?_
            refine b_203_160 _ _ _ (by first | assumption | rfl | (exact Or.inl rfl) | (exact Or.inr rfl) | omega | (exact Nat.le_of_ble_eq_true rfl) | decide | (exact ⟨by decide, rfl, by decide⟩)) (by first | assumption | rfl | (exact Or.inl rfl) | (exact Or.inr rfl) | omega | (exact Nat.le_of_ble_eq_true rfl) | decide | (exact ⟨by decide, rfl, by decide⟩)) (by first | assumption | rfl | (exact Or.inl rfl) | (exact Or.inr rfl) | omega | (exact Nat.le_of_ble_eq_true rfl) | decide | (exact ⟨by decide, rfl, by decide⟩)) ?_
            exact k0 _ ⟨⟨_, rfl, rfl⟩, fun q hq => by simp only [va_up]; repeat rw [if_neg (by omega)]⟩
          · intro z
            exact absurd (by decide) z
        · refine b_203_32 _ _ _ ?_ ?_
          · intro _
            refine b_203_55 _ _ _ (t3 := 165) (by decide +kernel) ?_
            refine b_203_165 _ _ _ (by first | assumption | rfl | (exact Or.inl rfl) | (exact Or.inr rfl) | omega | (exact Nat.le_of_ble_eq_true rfl) | decide | (exact ⟨by decide, rfl, by decide⟩)) (by first | assumption | rfl | (exact Or.inl rfl) | (exact Or.inr rfl) | omega | (exact Nat.le_of_ble_eq_true rfl) | decide | (exact ⟨by decide, rfl, by decide⟩)) (by first | assumption | rfl | (exact Or.inl rfl) | (exact Or.inr rfl) | omega | (exact Nat.le_of_ble_eq_true rfl) | decide | (exact ⟨by decide, rfl, by decide⟩)) ?_
            exact k0 _ ⟨⟨_, rfl, rfl⟩, fun q hq => by simp only [va_up]; repeat rw [if_neg (by omega)]⟩
          · intro z
            exact absurd (by decide) z
      · intro z
        exact absurd rfl z
    · intro z
      exact absurd (by decide) z
  · refine b_203_15 _ _ _ ?_ ?_
    · intro z
      exact absurd rfl z
    · intro _
      refine b_203_18 _ _ _ ?_
      refine b_203_23 _ _ _ (by first | assumption | rfl | (exact Or.inl rfl) | (exact Or.inr rfl) | omega | (exact Nat.le_of_ble_eq_true rfl) | decide | (exact ⟨by decide, rfl, by decide⟩)) (by first | assumption | rfl | (exact Or.inl rfl) | (exact Or.inr rfl) | omega | (exact Nat.le_of_ble_eq_true rfl) | decide | (exact ⟨by decide, rfl, by decide⟩)) ?_
      refine s_fails1 rfl (by omega) rfl (by decide) ?_
      refine b_203_27 _ _ _ ?_ ?_
      · intro z
        exact absurd z (by decide)
      · intro _
        refine b_203_30 _ _ _ ?_
        exact k1 (fun v => h1 ((mp_r64 (b := 10) rfl).mpr v)) _ ⟨⟨_, rfl, rfl⟩, fun q hq => by simp only [va_up]; repeat rw [if_neg (by omega)]⟩
theorem sr_end {l : Int32} (hl : ¬ l = 0) (hn : 575 ≤ n) (hP : ∀ q, 505 ≤ q → q < 574 → f q = (mp_hh mp_r2).2.2 q) (k1 : ∀ f', mp_RF 1 f f' → Q (.inl (some (.int 0))) (n, sl, f')) : mi_W (d + 1) 141 0 (mi_en 3 [.ref 505, .int l]) [] (n, sl, f) Q := by
  have q505 : f 505 = .inr (12, mp_M) := (hP 505 (by omega) (by omega)).trans mp_q505
  refine b_141_0 _ _ _ (by first | assumption | rfl | (exact Or.inl rfl) | (exact Or.inr rfl) | omega | (exact Nat.le_of_ble_eq_true rfl) | decide | (exact ⟨by decide, rfl, by decide⟩)) (by first | assumption | rfl | (exact Or.inl rfl) | (exact Or.inr rfl) | omega | (exact Nat.le_of_ble_eq_true rfl) | decide | (exact ⟨by decide, rfl, by decide⟩)) (by first | assumption | rfl | (exact Or.inl rfl) | (exact Or.inr rfl) | omega | (exact Nat.le_of_ble_eq_true rfl) | decide | (exact ⟨by decide, rfl, by decide⟩)) ?_ ?_
  · intro _
    refine b_141_25 _ _ _ ?_
    refine b_141_30 _ _ _ (by first | assumption | rfl | (exact Or.inl rfl) | (exact Or.inr rfl) | omega | (exact Nat.le_of_ble_eq_true rfl) | decide | (exact ⟨by decide, rfl, by decide⟩)) (by first | assumption | rfl | (exact Or.inl rfl) | (exact Or.inr rfl) | omega | (exact Nat.le_of_ble_eq_true rfl) | decide | (exact ⟨by decide, rfl, by decide⟩)) ?_
    refine s_fails1 rfl (by omega) rfl (by decide) ?_
    refine b_141_34 _ _ _ ?_ ?_
    · intro z
      exact absurd z (by decide)
    · intro _
      refine b_141_37 _ _ _ ?_
      exact k1 _ ⟨⟨_, rfl, rfl⟩, fun q hq => by simp only [va_up]; repeat rw [if_neg (by omega)]⟩
  · intro e
    refine b_141_10 _ _ _ ?_ ?_
    · intro _
      refine b_141_25 _ _ _ ?_
      refine b_141_30 _ _ _ (by first | assumption | rfl | (exact Or.inl rfl) | (exact Or.inr rfl) | omega | (exact Nat.le_of_ble_eq_true rfl) | decide | (exact ⟨by decide, rfl, by decide⟩)) (by first | assumption | rfl | (exact Or.inl rfl) | (exact Or.inr rfl) | omega | (exact Nat.le_of_ble_eq_true rfl) | decide | (exact ⟨by decide, rfl, by decide⟩)) ?_
      refine s_fails1 rfl (by omega) rfl (by decide) ?_
      refine b_141_34 _ _ _ ?_ ?_
      · intro z
        exact absurd z (by decide)
      · intro _
        refine b_141_37 _ _ _ ?_
        exact k1 _ ⟨⟨_, rfl, rfl⟩, fun q hq => by simp only [va_up]; repeat rw [if_neg (by omega)]⟩
    · intro _
      refine b_141_17 _ _ _ (by first | assumption | rfl | (exact Or.inl rfl) | (exact Or.inr rfl) | omega | (exact Nat.le_of_ble_eq_true rfl) | decide | (exact ⟨by decide, rfl, by decide⟩)) (by first | assumption | rfl | (exact Or.inl rfl) | (exact Or.inr rfl) | omega | (exact Nat.le_of_ble_eq_true rfl) | decide | (exact ⟨by decide, rfl, by decide⟩)) (by first | assumption | rfl | (exact Or.inl rfl) | (exact Or.inr rfl) | omega | (exact Nat.le_of_ble_eq_true rfl) | decide | (exact ⟨by decide, rfl, by decide⟩)) ?_ ?_
      · intro e2
        exact absurd e2 (fun z => mp_pos hl e z)
      · intro _
        refine b_141_25 _ _ _ ?_
        refine b_141_30 _ _ _ (by first | assumption | rfl | (exact Or.inl rfl) | (exact Or.inr rfl) | omega | (exact Nat.le_of_ble_eq_true rfl) | decide | (exact ⟨by decide, rfl, by decide⟩)) (by first | assumption | rfl | (exact Or.inl rfl) | (exact Or.inr rfl) | omega | (exact Nat.le_of_ble_eq_true rfl) | decide | (exact ⟨by decide, rfl, by decide⟩)) ?_
        refine s_fails1 rfl (by omega) rfl (by decide) ?_
        refine b_141_34 _ _ _ ?_ ?_
        · intro z
          exact absurd z (by decide)
        · intro _
          refine b_141_37 _ _ _ ?_
          exact k1 _ ⟨⟨_, rfl, rfl⟩, fun q hq => by simp only [va_up]; repeat rw [if_neg (by omega)]⟩
def mp_F (x : Int32) : List Value := (mp_M.set 0 (.int 0)).set 1 (.int x)
theorem mp_i8200 {x : Int32} (hx : ¬ x < 0 ∧ ¬ 20 ≤ x) : ∃ i, mi_ix x 8200 i := by
  refine ⟨_, hx.1, rfl, ?_⟩
  obtain ⟨h1, h2⟩ := hx
  rw [Int32.lt_iff_toInt_lt] at h1
  rw [Int32.le_iff_toInt_le] at h2
  have e1 : (0 : Int32).toInt = 0 := rfl
  have e2 : (20 : Int32).toInt = 20 := rfl
  rw [e1] at h1
  rw [e2] at h2
  have : x.toNatClampNeg = x.toInt.toNat := rfl
  omega
theorem sr_feed0 {a b c e v x s : Int32} {o8 : Option Value} (hx : ¬ x < 0 ∧ ¬ 20 ≤ x) (hn : 575 ≤ n) (q1 : f 505 = .inr (12, mp_F x)) (q2 : ∃ g, f 506 = .inl (0, 8200, .inl g)) (k : ∀ f' s, f' 505 = .inr (12, mp_F (x + 1)) → (∃ g, f' 506 = .inl (0, 8200, .inl g)) → (∀ q, ¬ q = 505 → ¬ q = 506 → f' q = f q) → mi_W d 139 36 [some (.ref 505), some (.int a), some (.int b), some (.int c), some (.int e), some (.int v), some (.int (x + 1)), some (.int s)] [] (n, sl, f') Q) : mi_W d 139 89 [some (.ref 505), some (.int a), some (.int b), some (.int c), some (.int e), some (.int v), some (.int x), o8] [.int s] (n, sl, f) Q := by
  obtain ⟨g, q2⟩ := q2
  obtain ⟨i, hi⟩ := mp_i8200 hx
  refine b_139_89 _ _ _ _ _ _ (by first | assumption | rfl | (exact Or.inl rfl) | (exact Or.inr rfl) | omega | (exact Nat.le_of_ble_eq_true rfl) | decide | (exact ⟨by decide, rfl, by decide⟩)) (by first | assumption | rfl | (exact Or.inl rfl) | (exact Or.inr rfl) | omega | (exact Nat.le_of_ble_eq_true rfl) | decide | (exact ⟨by decide, rfl, by decide⟩)) (by first | assumption | rfl | (exact Or.inl rfl) | (exact Or.inr rfl) | omega | (exact Nat.le_of_ble_eq_true rfl) | decide | (exact ⟨by decide, rfl, by decide⟩)) (by first | assumption | rfl | (exact Or.inl rfl) | (exact Or.inr rfl) | omega | (exact Nat.le_of_ble_eq_true rfl) | decide | (exact ⟨by decide, rfl, by decide⟩)) (by first | assumption | rfl | (exact Or.inl rfl) | (exact Or.inr rfl) | omega | (exact Nat.le_of_ble_eq_true rfl) | decide | (exact ⟨by decide, rfl, by decide⟩)) (by first | assumption | rfl | (exact Or.inl rfl) | (exact Or.inr rfl) | omega | (exact Nat.le_of_ble_eq_true rfl) | decide | (exact ⟨by decide, rfl, by decide⟩)) (by first | assumption | rfl | (exact Or.inl rfl) | (exact Or.inr rfl) | omega | (exact Nat.le_of_ble_eq_true rfl) | decide | (exact ⟨by decide, rfl, by decide⟩)) (by first | assumption | rfl | (exact Or.inl rfl) | (exact Or.inr rfl) | omega | (exact Nat.le_of_ble_eq_true rfl) | decide | (exact ⟨by decide, rfl, by decide⟩)) (by first | assumption | rfl | (exact Or.inl rfl) | (exact Or.inr rfl) | omega | (exact Nat.le_of_ble_eq_true rfl) | decide | (exact ⟨by decide, rfl, by decide⟩)) (by first | assumption | rfl | (exact Or.inl rfl) | (exact Or.inr rfl) | omega | (exact Nat.le_of_ble_eq_true rfl) | decide | (exact ⟨by decide, rfl, by decide⟩)) (by first | assumption | rfl | (exact Or.inl rfl) | (exact Or.inr rfl) | omega | (exact Nat.le_of_ble_eq_true rfl) | decide | (exact ⟨by decide, rfl, by decide⟩)) (by first | assumption | rfl | (exact Or.inl rfl) | (exact Or.inr rfl) | omega | (exact Nat.le_of_ble_eq_true rfl) | decide | (exact ⟨by decide, rfl, by decide⟩)) ?_
  refine k _ _ rfl ⟨_, by simp only [va_up]; rfl⟩ ?_
  intro q h1 h2
  simp only [va_up]
  rw [if_neg h2, if_neg h1]
theorem sr_feed1 {a b c e v x : Int32} {o8 : Option Value} (hx : ¬ x < 0 ∧ ¬ 20 ≤ x) (hn : 575 ≤ n) (q1 : f 505 = .inr (12, mp_F x)) (q2 : ∃ g, f 506 = .inl (0, 8200, .inl g)) (k : ∀ f' s, f' 505 = .inr (12, mp_F (x + 1)) → (∃ g, f' 506 = .inl (0, 8200, .inl g)) → (∀ q, ¬ q = 505 → ¬ q = 506 → f' q = f q) → mi_W d 139 36 [some (.ref 505), some (.int a), some (.int b), some (.int c), some (.int e), some (.int v), some (.int (x + 1)), some (.int s)] [] (n, sl, f') Q) : mi_W d 139 36 [some (.ref 505), some (.int a), some (.int b), some (.int c), some (.int e), some (.int v), some (.int x), o8] [] (n, sl, f) Q := by
  refine b_139_36 _ _ _ ?_ ?_
  · intro z
    exact absurd z hx.2
  · intro _
    refine b_139_43 _ _ _ ?_ ?_
    · intro _
      refine b_139_53 _ _ _ ?_ ?_
      · intro _
        refine b_139_64 _ _ _ ?_ ?_
        · intro _
          refine b_139_75 _ _ _ ?_ ?_
          · intro _
            refine b_139_87 _ _ _ ?_
            exact sr_feed0 hx hn q1 q2 k
          · intro _
            refine b_139_82 _ _ _ ?_
            exact sr_feed0 hx hn q1 q2 k
        · intro _
          refine b_139_71 _ _ _ ?_
          exact sr_feed0 hx hn q1 q2 k
      · intro _
        refine b_139_60 _ _ _ ?_
        exact sr_feed0 hx hn q1 q2 k
    · intro _
      refine b_139_49 _ _ _ ?_
      exact sr_feed0 hx hn q1 q2 k
theorem sr_feed {a b c e v : Int32}  (hn : 575 ≤ n) (hP : ∀ q, 505 ≤ q → q < 574 → f q = (mp_hh mp_r2).2.2 q) (k0 : ∀ f', mp_RF 0 f f' → Q (.inl (some (.int 20))) (n, sl, f')) : mi_W (d + 1) 139 0 (mi_en 8 [.ref 505, .int a, .int b, .int c, .int e, .int v]) [] (n, sl, f) Q := by
  have q505 : f 505 = .inr (12, mp_M) := (hP 505 (by omega) (by omega)).trans mp_q505
  obtain ⟨g506, q506⟩ : ∃ g, f 506 = .inl (0, 8200, .inl g) := by
    rw [hP 506 (by omega) (by omega)]
    exact mp_q506
  refine b_139_0 _ _ _ (by first | assumption | rfl | (exact Or.inl rfl) | (exact Or.inr rfl) | omega | (exact Nat.le_of_ble_eq_true rfl) | decide | (exact ⟨by decide, rfl, by decide⟩)) (by first | assumption | rfl | (exact Or.inl rfl) | (exact Or.inr rfl) | omega | (exact Nat.le_of_ble_eq_true rfl) | decide | (exact ⟨by decide, rfl, by decide⟩)) (by first | assumption | rfl | (exact Or.inl rfl) | (exact Or.inr rfl) | omega | (exact Nat.le_of_ble_eq_true rfl) | decide | (exact ⟨by decide, rfl, by decide⟩)) (by first | assumption | rfl | (exact Or.inl rfl) | (exact Or.inr rfl) | omega | (exact Nat.le_of_ble_eq_true rfl) | decide | (exact ⟨by decide, rfl, by decide⟩)) (by first | assumption | rfl | (exact Or.inl rfl) | (exact Or.inr rfl) | omega | (exact Nat.le_of_ble_eq_true rfl) | decide | (exact ⟨by decide, rfl, by decide⟩)) (by first | assumption | rfl | (exact Or.inl rfl) | (exact Or.inr rfl) | omega | (exact Nat.le_of_ble_eq_true rfl) | decide | (exact ⟨by decide, rfl, by decide⟩)) ?_ ?_
  · intro _
    refine b_139_23 _ _ _ ?_
    refine b_139_24 _ _ _ (by first | assumption | rfl | (exact Or.inl rfl) | (exact Or.inr rfl) | omega | (exact Nat.le_of_ble_eq_true rfl) | decide | (exact ⟨by decide, rfl, by decide⟩)) (by first | assumption | rfl | (exact Or.inl rfl) | (exact Or.inr rfl) | omega | (exact Nat.le_of_ble_eq_true rfl) | decide | (exact ⟨by decide, rfl, by decide⟩)) ?_
    refine s_fails0 rfl (by omega) rfl ?_
    refine b_139_28 _ _ _ ?_ ?_
    · intro _
      refine b_139_33 _ _ _ ?_
      refine sr_feed1 (x := 0) (by decide) hn rfl ⟨_, q506⟩ (fun f1 s1 a1 b1 c1 => ?_)
      refine sr_feed1 (by decide) hn a1 b1 (fun f2 s2 a2 b2 c2 => ?_)
      refine sr_feed1 (by decide) hn a2 b2 (fun f3 s3 a3 b3 c3 => ?_)
      refine sr_feed1 (by decide) hn a3 b3 (fun f4 s4 a4 b4 c4 => ?_)
      refine sr_feed1 (by decide) hn a4 b4 (fun f5 s5 a5 b5 c5 => ?_)
      refine sr_feed1 (by decide) hn a5 b5 (fun f6 s6 a6 b6 c6 => ?_)
      refine sr_feed1 (by decide) hn a6 b6 (fun f7 s7 a7 b7 c7 => ?_)
      refine sr_feed1 (by decide) hn a7 b7 (fun f8 s8 a8 b8 c8 => ?_)
      refine sr_feed1 (by decide) hn a8 b8 (fun f9 s9 a9 b9 c9 => ?_)
      refine sr_feed1 (by decide) hn a9 b9 (fun f10 s10 a10 b10 c10 => ?_)
      refine sr_feed1 (by decide) hn a10 b10 (fun f11 s11 a11 b11 c11 => ?_)
      refine sr_feed1 (by decide) hn a11 b11 (fun f12 s12 a12 b12 c12 => ?_)
      refine sr_feed1 (by decide) hn a12 b12 (fun f13 s13 a13 b13 c13 => ?_)
      refine sr_feed1 (by decide) hn a13 b13 (fun f14 s14 a14 b14 c14 => ?_)
      refine sr_feed1 (by decide) hn a14 b14 (fun f15 s15 a15 b15 c15 => ?_)
      refine sr_feed1 (by decide) hn a15 b15 (fun f16 s16 a16 b16 c16 => ?_)
      refine sr_feed1 (by decide) hn a16 b16 (fun f17 s17 a17 b17 c17 => ?_)
      refine sr_feed1 (by decide) hn a17 b17 (fun f18 s18 a18 b18 c18 => ?_)
      refine sr_feed1 (by decide) hn a18 b18 (fun f19 s19 a19 b19 c19 => ?_)
      refine sr_feed1 (by decide) hn a19 b19 (fun f20 s20 a20 b20 c20 => ?_)
      refine b_139_36 _ _ _ ?_ ?_
      · intro _
        refine b_139_130 _ _ _ (by first | assumption | rfl | (exact Or.inl rfl) | (exact Or.inr rfl) | omega | (exact Nat.le_of_ble_eq_true rfl) | decide | (exact ⟨by decide, rfl, by decide⟩)) (by first | assumption | rfl | (exact Or.inl rfl) | (exact Or.inr rfl) | omega | (exact Nat.le_of_ble_eq_true rfl) | decide | (exact ⟨by decide, rfl, by decide⟩)) (by first | assumption | rfl | (exact Or.inl rfl) | (exact Or.inr rfl) | omega | (exact Nat.le_of_ble_eq_true rfl) | decide | (exact ⟨by decide, rfl, by decide⟩)) ?_
        refine k0 f20 ⟨⟨_, a20, rfl⟩, fun q hq => ?_⟩
        have h1 : ¬ q = 505 := by omega
        have h2 : ¬ q = 506 := by omega
        rw [c20 q h1 h2, c19 q h1 h2, c18 q h1 h2, c17 q h1 h2, c16 q h1 h2, c15 q h1 h2, c14 q h1 h2, c13 q h1 h2, c12 q h1 h2, c11 q h1 h2, c10 q h1 h2, c9 q h1 h2, c8 q h1 h2, c7 q h1 h2, c6 q h1 h2, c5 q h1 h2, c4 q h1 h2, c3 q h1 h2, c2 q h1 h2, c1 q h1 h2]
        simp only [va_up]
        rw [if_neg h1]
      · intro z
        exact absurd (by decide) z
    · intro z
      exact absurd rfl z
  · intro z
    exact absurd (by decide) z
end
