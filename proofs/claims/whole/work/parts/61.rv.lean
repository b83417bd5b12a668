/-! the second object's reckoning: it comes to an end, and only 'large' changes -/
def mr_u (f : Nat → mi_C) (X : Nat → Int32) (Y : Nat → Int64) (s : Value) (l : Int32) : Nat → mi_C := va_up f 505 (.inr (12, mL 88 (mr_S (va_up X 46 l) Y s)))
def mr_St (f : Nat → mi_C) (p : Nat) : Prop := ∃ (nd : Int32) (tm : Int64) (acc ch us : Nat → Int64) (ic iu : Nat → Int32), f p = .inr (13, [.int nd, .long tm, .ref (p + 1), .ref (p + 2), .ref (p + 3), .ref (p + 4), .ref (p + 5)]) ∧ f (p + 1) = .inl (3, 32, .inr (.inl acc)) ∧ f (p + 2) = .inl (3, 8, .inr (.inl ch)) ∧ f (p + 3) = .inl (3, 8, .inr (.inl us)) ∧ f (p + 4) = .inl (2, 8, .inl ic) ∧ f (p + 5) = .inl (2, 8, .inl iu) ∧ (∀ j, ic j = 0 ∨ ic j = 1) ∧ ∀ j, iu j = 0 ∨ iu j = 1
def mr_V (n : Nat) (f : Nat → mi_C) (p : Nat) (I : Nat → Nat → Int32) (J : Nat → Nat → Int64) : Prop := 575 ≤ n ∧ (f 509 = .inl (0, 800, .inl (I 509)) ∧ f 510 = .inl (0, 800, .inl (I 510)) ∧ f 511 = .inl (0, 800, .inl (I 511)) ∧ f 512 = .inl (0, 800, .inl (I 512)) ∧ f 513 = .inl (0, 800, .inl (I 513)) ∧ f 517 = .inl (3, 800, .inr (.inl (J 517)))) ∧ (p + 5 < n ∧ 505 < p) ∧ mr_St f p
def mr_x (n : Int32) : Nat := n.toNatClampNeg
def mr_wf (I : Nat → Nat → Int32) : Nat → Bool → Int32 → Prop
  | 0, _, _ => False
  | k + 1, false, n => mi_ix n 800 (mr_x n) ∧ (I 509 (mr_x n) = 10 ∨ (I 509 (mr_x n) = 11 ∧ ∃ i, mi_ix (4 * I 510 (mr_x n) + I 512 (mr_x n)) 32 i) ∨ (I 509 (mr_x n) = 12 ∧ mr_wf I k false (I 510 (mr_x n))) ∨ ((I 509 (mr_x n) = 13 ∨ I 509 (mr_x n) = 14 ∨ I 509 (mr_x n) = 15 ∨ I 509 (mr_x n) = 16) ∧ mr_wf I k false (I 510 (mr_x n)) ∧ mr_wf I k false (I 511 (mr_x n))) ∨ ((I 509 (mr_x n) = 17 ∨ I 509 (mr_x n) = 18) ∧ ∃ i, mi_ix (I 510 (mr_x n)) 8 i) ∨ I 509 (mr_x n) = 19 ∨ I 509 (mr_x n) = 20 ∨ (I 509 (mr_x n) = 21 ∧ mr_wf I k true (I 513 (mr_x n)) ∧ mr_wf I k false (I 510 (mr_x n)) ∧ mr_wf I k false (I 511 (mr_x n))))
  | k + 1, true, n => mi_ix n 800 (mr_x n) ∧ (I 509 (mr_x n) = 22 ∨ I 509 (mr_x n) = 23 ∨ ((I 509 (mr_x n) = 24 ∨ I 509 (mr_x n) = 25) ∧ mr_wf I k true (I 510 (mr_x n)) ∧ mr_wf I k true (I 511 (mr_x n))) ∨ (I 509 (mr_x n) = 26 ∧ mr_wf I k true (I 510 (mr_x n))) ∨ (I 509 (mr_x n) = 27 ∧ ∃ i, mi_ix (I 510 (mr_x n)) 8 i) ∨ ((I 509 (mr_x n) = 28 ∨ I 509 (mr_x n) = 29 ∨ I 509 (mr_x n) = 30 ∨ I 509 (mr_x n) = 31 ∨ I 509 (mr_x n) = 32) ∧ mr_wf I k false (I 510 (mr_x n)) ∧ mr_wf I k false (I 511 (mr_x n))))
section
variable {d n sl p k : Nat} {f : Nat → mi_C} {X : Nat → Int32} {Y : Nat → Int64} {s : Value} {l : Int32} {I : Nat → Nat → Int32} {J : Nat → Nat → Int64} {Q : (Option Value ⊕ Nat) → mi_H → Prop}
theorem mr_u_ne {q : Nat} (e : ¬ q = 505) : mr_u f X Y s l q = f q := by simp [mr_u, va_up, e]
theorem mr_u_at : mr_u f X Y s l 505 = .inr (12, mL 88 (mr_S (va_up X 46 l) Y s)) := by simp [mr_u, va_up]
theorem mr_u_set : va_up (mr_u f X Y s l) 505 (.inr (12, (mL 88 (mr_S (va_up X 46 l) Y s)).set 46 (.int 1))) = mr_u f X Y s 1 := by
  unfold mr_u
  rw [va_up_up, mL_set, mr_S_int rfl, va_up_up]
theorem mr_St.up (h : mr_St f p) (hp : 505 < p) : mr_St (mr_u f X Y s l) p := by
  obtain ⟨nd, tm, acc, ch, us, ic, iu, h0, h1, h2, h3, h4, h5, h6, h7⟩ := h
  exact ⟨nd, tm, acc, ch, us, ic, iu, (mr_u_ne (by omega)).trans h0, (mr_u_ne (by omega)).trans h1, (mr_u_ne (by omega)).trans h2, (mr_u_ne (by omega)).trans h3, (mr_u_ne (by omega)).trans h4, (mr_u_ne (by omega)).trans h5, h6, h7⟩
theorem mr_V.up (h : mr_V n f p I J) : mr_V n (mr_u f X Y s l) p I J := by
  obtain ⟨hn, ⟨h0, h1, h2, h3, h4, h5⟩, ⟨hp, hp2⟩, hS⟩ := h
  exact ⟨hn, ⟨(mr_u_ne (by decide)).trans h0, (mr_u_ne (by decide)).trans h1, (mr_u_ne (by decide)).trans h2, (mr_u_ne (by decide)).trans h3, (mr_u_ne (by decide)).trans h4, (mr_u_ne (by decide)).trans h5⟩, ⟨hp, hp2⟩, hS.up hp2⟩
theorem sv_fit {v : Int64} (hn : 575 ≤ n) (hl : l = 0 ∨ l = 1) (k : ∀ l', (l' = 0 ∨ l' = 1) → Q (.inl (some (.long v))) (n, sl, mr_u f X Y s l')) : mi_W d 178 0 (mi_en 3 [.ref 505, .long v]) [] (n, sl, mr_u f X Y s l) Q := by
  have q505 := mr_u_at (f := f) (X := X) (Y := Y) (s := s) (l := l)
  refine b_178_0 _ _ _ ?_ ?_
  · intro _
    refine b_178_16 _ _ _ (by first | assumption | (exact mL_get (by decide)) | (rw [mL_len]; decide) | (simp only [mL_set]; exact mL_get (by decide)) | (simp only [mL_set, mL_len]; decide) | (exact va_eq) | (exact (va_ne (by omega)).trans (by assumption)) | (exact (va_ne (by omega)).trans va_eq) | (exact (va_ne (by omega)).trans ((va_ne (by omega)).trans (by assumption))) | (exact (va_ne (by omega)).trans ((va_ne (by omega)).trans ((va_ne (by omega)).trans (by assumption)))) | rfl | (exact Or.inl rfl) | (exact Or.inr rfl) | omega | (exact Nat.le_of_ble_eq_true rfl) | decide | (exact ⟨by decide, rfl, by decide⟩)) (by first | assumption | (exact mL_get (by decide)) | (rw [mL_len]; decide) | (simp only [mL_set]; exact mL_get (by decide)) | (simp only [mL_set, mL_len]; decide) | (exact va_eq) | (exact (va_ne (by omega)).trans (by assumption)) | (exact (va_ne (by omega)).trans va_eq) | (exact (va_ne (by omega)).trans ((va_ne (by omega)).trans (by assumption))) | (exact (va_ne (by omega)).trans ((va_ne (by omega)).trans ((va_ne (by omega)).trans (by assumption)))) | rfl | (exact Or.inl rfl) | (exact Or.inr rfl) | omega | (exact Nat.le_of_ble_eq_true rfl) | decide | (exact ⟨by decide, rfl, by decide⟩)) (by first | assumption | (exact mL_get (by decide)) | (rw [mL_len]; decide) | (simp only [mL_set]; exact mL_get (by decide)) | (simp only [mL_set, mL_len]; decide) | (exact va_eq) | (exact (va_ne (by omega)).trans (by assumption)) | (exact (va_ne (by omega)).trans va_eq) | (exact (va_ne (by omega)).trans ((va_ne (by omega)).trans (by assumption))) | (exact (va_ne (by omega)).trans ((va_ne (by omega)).trans ((va_ne (by omega)).trans (by assumption)))) | rfl | (exact Or.inl rfl) | (exact Or.inr rfl) | omega | (exact Nat.le_of_ble_eq_true rfl) | decide | (exact ⟨by decide, rfl, by decide⟩)) (by first | assumption | (exact mL_get (by decide)) | (rw [mL_len]; decide) | (simp only [mL_set]; exact mL_get (by decide)) | (simp only [mL_set, mL_len]; decide) | (exact va_eq) | (exact (va_ne (by omega)).trans (by assumption)) | (exact (va_ne (by omega)).trans va_eq) | (exact (va_ne (by omega)).trans ((va_ne (by omega)).trans (by assumption))) | (exact (va_ne (by omega)).trans ((va_ne (by omega)).trans ((va_ne (by omega)).trans (by assumption)))) | rfl | (exact Or.inl rfl) | (exact Or.inr rfl) | omega | (exact Nat.le_of_ble_eq_true rfl) | decide | (exact ⟨by decide, rfl, by decide⟩)) ?_
    rw [mr_u_set]
    refine b_178_21 _ _ _ ?_
    exact k 1 (Or.inr rfl)
  · intro _
    refine b_178_8 _ _ _ ?_ ?_
    · intro _
      refine b_178_21 _ _ _ ?_
      exact k l hl
    · intro _
      refine b_178_16 _ _ _ (by first | assumption | (exact mL_get (by decide)) | (rw [mL_len]; decide) | (simp only [mL_set]; exact mL_get (by decide)) | (simp only [mL_set, mL_len]; decide) | (exact va_eq) | (exact (va_ne (by omega)).trans (by assumption)) | (exact (va_ne (by omega)).trans va_eq) | (exact (va_ne (by omega)).trans ((va_ne (by omega)).trans (by assumption))) | (exact (va_ne (by omega)).trans ((va_ne (by omega)).trans ((va_ne (by omega)).trans (by assumption)))) | rfl | (exact Or.inl rfl) | (exact Or.inr rfl) | omega | (exact Nat.le_of_ble_eq_true rfl) | decide | (exact ⟨by decide, rfl, by decide⟩)) (by first | assumption | (exact mL_get (by decide)) | (rw [mL_len]; decide) | (simp only [mL_set]; exact mL_get (by decide)) | (simp only [mL_set, mL_len]; decide) | (exact va_eq) | (exact (va_ne (by omega)).trans (by assumption)) | (exact (va_ne (by omega)).trans va_eq) | (exact (va_ne (by omega)).trans ((va_ne (by omega)).trans (by assumption))) | (exact (va_ne (by omega)).trans ((va_ne (by omega)).trans ((va_ne (by omega)).trans (by assumption)))) | rfl | (exact Or.inl rfl) | (exact Or.inr rfl) | omega | (exact Nat.le_of_ble_eq_true rfl) | decide | (exact ⟨by decide, rfl, by decide⟩)) (by first | assumption | (exact mL_get (by decide)) | (rw [mL_len]; decide) | (simp only [mL_set]; exact mL_get (by decide)) | (simp only [mL_set, mL_len]; decide) | (exact va_eq) | (exact (va_ne (by omega)).trans (by assumption)) | (exact (va_ne (by omega)).trans va_eq) | (exact (va_ne (by omega)).trans ((va_ne (by omega)).trans (by assumption))) | (exact (va_ne (by omega)).trans ((va_ne (by omega)).trans ((va_ne (by omega)).trans (by assumption)))) | rfl | (exact Or.inl rfl) | (exact Or.inr rfl) | omega | (exact Nat.le_of_ble_eq_true rfl) | decide | (exact ⟨by decide, rfl, by decide⟩)) (by first | assumption | (exact mL_get (by decide)) | (rw [mL_len]; decide) | (simp only [mL_set]; exact mL_get (by decide)) | (simp only [mL_set, mL_len]; decide) | (exact va_eq) | (exact (va_ne (by omega)).trans (by assumption)) | (exact (va_ne (by omega)).trans va_eq) | (exact (va_ne (by omega)).trans ((va_ne (by omega)).trans (by assumption))) | (exact (va_ne (by omega)).trans ((va_ne (by omega)).trans ((va_ne (by omega)).trans (by assumption)))) | rfl | (exact Or.inl rfl) | (exact Or.inr rfl) | omega | (exact Nat.le_of_ble_eq_true rfl) | decide | (exact ⟨by decide, rfl, by decide⟩)) ?_
      rw [mr_u_set]
      refine b_178_21 _ _ _ ?_
      exact k 1 (Or.inr rfl)
theorem sv_mulh {a b : Int64} (k : ∀ v, Q (.inl (some (.long v))) (n, sl, f)) : mi_W d 181 0 (mi_en 20 [.long a, .long b]) [] (n, sl, f) Q := by
  refine b_181_0 _ _ _ ?_
  exact k _
theorem sv_two {o : Int32} {x y : Int64} (hn : 575 ≤ n) (hl : l = 0 ∨ l = 1) (k : ∀ v l', (l' = 0 ∨ l' = 1) → Q (.inl (some (.long v))) (n, sl, mr_u f X Y s l')) : mi_W (d + 1) 180 0 (mi_en 9 [.ref 505, .int o, .long x, .long y]) [] (n, sl, mr_u f X Y s l) Q := by
  have q505 := mr_u_at (f := f) (X := X) (Y := Y) (s := s) (l := l)
  have q505' := mr_u_at (f := f) (X := X) (Y := Y) (s := s) (l := 1)
  refine b_180_0 _ _ _ (by first | assumption | (exact mL_get (by decide)) | (rw [mL_len]; decide) | (simp only [mL_set]; exact mL_get (by decide)) | (simp only [mL_set, mL_len]; decide) | (exact va_eq) | (exact (va_ne (by omega)).trans (by assumption)) | (exact (va_ne (by omega)).trans va_eq) | (exact (va_ne (by omega)).trans ((va_ne (by omega)).trans (by assumption))) | (exact (va_ne (by omega)).trans ((va_ne (by omega)).trans ((va_ne (by omega)).trans (by assumption)))) | rfl | (exact Or.inl rfl) | (exact Or.inr rfl) | omega | (exact Nat.le_of_ble_eq_true rfl) | decide | (exact ⟨by decide, rfl, by decide⟩)) (by first | assumption | (exact mL_get (by decide)) | (rw [mL_len]; decide) | (simp only [mL_set]; exact mL_get (by decide)) | (simp only [mL_set, mL_len]; decide) | (exact va_eq) | (exact (va_ne (by omega)).trans (by assumption)) | (exact (va_ne (by omega)).trans va_eq) | (exact (va_ne (by omega)).trans ((va_ne (by omega)).trans (by assumption))) | (exact (va_ne (by omega)).trans ((va_ne (by omega)).trans ((va_ne (by omega)).trans (by assumption)))) | rfl | (exact Or.inl rfl) | (exact Or.inr rfl) | omega | (exact Nat.le_of_ble_eq_true rfl) | decide | (exact ⟨by decide, rfl, by decide⟩)) (by first | assumption | (exact mL_get (by decide)) | (rw [mL_len]; decide) | (simp only [mL_set]; exact mL_get (by decide)) | (simp only [mL_set, mL_len]; decide) | (exact va_eq) | (exact (va_ne (by omega)).trans (by assumption)) | (exact (va_ne (by omega)).trans va_eq) | (exact (va_ne (by omega)).trans ((va_ne (by omega)).trans (by assumption))) | (exact (va_ne (by omega)).trans ((va_ne (by omega)).trans ((va_ne (by omega)).trans (by assumption)))) | rfl | (exact Or.inl rfl) | (exact Or.inr rfl) | omega | (exact Nat.le_of_ble_eq_true rfl) | decide | (exact ⟨by decide, rfl, by decide⟩)) ?_ ?_
  · intro _
    have hadd : ∀ (v : Int64) (o7 : Option Value), mi_W (d + 1) 180 88 [some (.ref 505), some (.int o), some (.long x), none, some (.long y), none, some (.long v), none, o7] [.int 0] (n, sl, mr_u f X Y s l) Q ∧ mi_W (d + 1) 180 88 [some (.ref 505), some (.int o), some (.long x), none, some (.long y), none, some (.long v), none, o7] [.int 1] (n, sl, mr_u f X Y s l) Q := by
      intro v o7
      refine ⟨?_, ?_⟩
      · refine b_180_88 _ _ _ ?_ ?_
        · intro _
          refine b_180_100 _ _ _ (by first | assumption | (exact mL_get (by decide)) | (rw [mL_len]; decide) | (simp only [mL_set]; exact mL_get (by decide)) | (simp only [mL_set, mL_len]; decide) | (exact va_eq) | (exact (va_ne (by omega)).trans (by assumption)) | (exact (va_ne (by omega)).trans va_eq) | (exact (va_ne (by omega)).trans ((va_ne (by omega)).trans (by assumption))) | (exact (va_ne (by omega)).trans ((va_ne (by omega)).trans ((va_ne (by omega)).trans (by assumption)))) | rfl | (exact Or.inl rfl) | (exact Or.inr rfl) | omega | (exact Nat.le_of_ble_eq_true rfl) | decide | (exact ⟨by decide, rfl, by decide⟩)) (by first | assumption | (exact mL_get (by decide)) | (rw [mL_len]; decide) | (simp only [mL_set]; exact mL_get (by decide)) | (simp only [mL_set, mL_len]; decide) | (exact va_eq) | (exact (va_ne (by omega)).trans (by assumption)) | (exact (va_ne (by omega)).trans va_eq) | (exact (va_ne (by omega)).trans ((va_ne (by omega)).trans (by assumption))) | (exact (va_ne (by omega)).trans ((va_ne (by omega)).trans ((va_ne (by omega)).trans (by assumption)))) | rfl | (exact Or.inl rfl) | (exact Or.inr rfl) | omega | (exact Nat.le_of_ble_eq_true rfl) | decide | (exact ⟨by decide, rfl, by decide⟩)) ?_
          refine sv_fit hn hl (fun l' hl' => ?_)
          refine b_180_106 _ _ _ ?_
          exact k _ l' hl'
        · intro e
          exact absurd rfl e
      · refine b_180_88 _ _ _ ?_ ?_
        · intro e
          exact absurd e (by decide)
        · intro _
          refine b_180_95 _ _ _ (by first | assumption | (exact mL_get (by decide)) | (rw [mL_len]; decide) | (simp only [mL_set]; exact mL_get (by decide)) | (simp only [mL_set, mL_len]; decide) | (exact va_eq) | (exact (va_ne (by omega)).trans (by assumption)) | (exact (va_ne (by omega)).trans va_eq) | (exact (va_ne (by omega)).trans ((va_ne (by omega)).trans (by assumption))) | (exact (va_ne (by omega)).trans ((va_ne (by omega)).trans ((va_ne (by omega)).trans (by assumption)))) | rfl | (exact Or.inl rfl) | (exact Or.inr rfl) | omega | (exact Nat.le_of_ble_eq_true rfl) | decide | (exact ⟨by decide, rfl, by decide⟩)) (by first | assumption | (exact mL_get (by decide)) | (rw [mL_len]; decide) | (simp only [mL_set]; exact mL_get (by decide)) | (simp only [mL_set, mL_len]; decide) | (exact va_eq) | (exact (va_ne (by omega)).trans (by assumption)) | (exact (va_ne (by omega)).trans va_eq) | (exact (va_ne (by omega)).trans ((va_ne (by omega)).trans (by assumption))) | (exact (va_ne (by omega)).trans ((va_ne (by omega)).trans ((va_ne (by omega)).trans (by assumption)))) | rfl | (exact Or.inl rfl) | (exact Or.inr rfl) | omega | (exact Nat.le_of_ble_eq_true rfl) | decide | (exact ⟨by decide, rfl, by decide⟩)) (by first | assumption | (exact mL_get (by decide)) | (rw [mL_len]; decide) | (simp only [mL_set]; exact mL_get (by decide)) | (simp only [mL_set, mL_len]; decide) | (exact va_eq) | (exact (va_ne (by omega)).trans (by assumption)) | (exact (va_ne (by omega)).trans va_eq) | (exact (va_ne (by omega)).trans ((va_ne (by omega)).trans (by assumption))) | (exact (va_ne (by omega)).trans ((va_ne (by omega)).trans ((va_ne (by omega)).trans (by assumption)))) | rfl | (exact Or.inl rfl) | (exact Or.inr rfl) | omega | (exact Nat.le_of_ble_eq_true rfl) | decide | (exact ⟨by decide, rfl, by decide⟩)) (by first | assumption | (exact mL_get (by decide)) | (rw [mL_len]; decide) | (simp only [mL_set]; exact mL_get (by decide)) | (simp only [mL_set, mL_len]; decide) | (exact va_eq) | (exact (va_ne (by omega)).trans (by assumption)) | (exact (va_ne (by omega)).trans va_eq) | (exact (va_ne (by omega)).trans ((va_ne (by omega)).trans (by assumption))) | (exact (va_ne (by omega)).trans ((va_ne (by omega)).trans ((va_ne (by omega)).trans (by assumption)))) | rfl | (exact Or.inl rfl) | (exact Or.inr rfl) | omega | (exact Nat.le_of_ble_eq_true rfl) | decide | (exact ⟨by decide, rfl, by decide⟩)) ?_
          rw [mr_u_set]
          refine b_180_100 _ _ _ (by first | assumption | (exact mL_get (by decide)) | (rw [mL_len]; decide) | (simp only [mL_set]; exact mL_get (by decide)) | (simp only [mL_set, mL_len]; decide) | (exact va_eq) | (exact (va_ne (by omega)).trans (by assumption)) | (exact (va_ne (by omega)).trans va_eq) | (exact (va_ne (by omega)).trans ((va_ne (by omega)).trans (by assumption))) | (exact (va_ne (by omega)).trans ((va_ne (by omega)).trans ((va_ne (by omega)).trans (by assumption)))) | rfl | (exact Or.inl rfl) | (exact Or.inr rfl) | omega | (exact Nat.le_of_ble_eq_true rfl) | decide | (exact ⟨by decide, rfl, by decide⟩)) (by first | assumption | (exact mL_get (by decide)) | (rw [mL_len]; decide) | (simp only [mL_set]; exact mL_get (by decide)) | (simp only [mL_set, mL_len]; decide) | (exact va_eq) | (exact (va_ne (by omega)).trans (by assumption)) | (exact (va_ne (by omega)).trans va_eq) | (exact (va_ne (by omega)).trans ((va_ne (by omega)).trans (by assumption))) | (exact (va_ne (by omega)).trans ((va_ne (by omega)).trans ((va_ne (by omega)).trans (by assumption)))) | rfl | (exact Or.inl rfl) | (exact Or.inr rfl) | omega | (exact Nat.le_of_ble_eq_true rfl) | decide | (exact ⟨by decide, rfl, by decide⟩)) ?_
          refine sv_fit hn (Or.inr rfl) (fun l' hl' => ?_)
          refine b_180_106 _ _ _ ?_
          exact k _ l' hl'
    have h38 : ∀ v : Int64, mi_W (d + 1) 180 38 [some (.ref 505), some (.int o), some (.long x), none, some (.long y), none, none, none, none] [.long v] (n, sl, mr_u f X Y s l) Q := by
      intro v
      refine b_180_38 _ _ _ ?_ ?_
      · intro _
        refine b_180_69 _ _ _ ?_ ?_
        · intro _
          refine b_180_87 _ _ _ ?_
          exact (hadd v _).1
        · intro _
          refine b_180_83 _ _ _ ?_
          exact (hadd v _).2
      · intro _
        refine b_180_46 _ _ _ ?_ ?_
        · intro _
          refine b_180_65 _ _ _ ?_
          exact (hadd v _).1
        · intro _
          refine b_180_61 _ _ _ ?_
          exact (hadd v _).2
    have h21 : mi_W (d + 1) 180 21 [some (.ref 505), some (.int o), some (.long x), none, some (.long y), none, none, none, none] [] (n, sl, mr_u f X Y s l) Q := by
      refine b_180_21 _ _ _ ?_ ?_
      · intro _
        refine b_180_34 _ _ _ ?_
        exact h38 _
      · intro _
        refine b_180_27 _ _ _ ?_
        exact h38 _
    refine b_180_9 _ _ _ ?_ ?_
    · intro _
      exact h21
    · intro _
      refine b_180_15 _ _ _ ?_ ?_
      · intro _
        refine b_180_107 _ _ _ ?_ ?_
        · intro _
          refine b_180_133 _ _ _ ?_
          refine sv_mulh (fun v => ?_)
          refine b_180_145 _ _ _ ?_ ?_
          · intro _
            refine b_180_159 _ _ _ (by first | assumption | (exact mL_get (by decide)) | (rw [mL_len]; decide) | (simp only [mL_set]; exact mL_get (by decide)) | (simp only [mL_set, mL_len]; decide) | (exact va_eq) | (exact (va_ne (by omega)).trans (by assumption)) | (exact (va_ne (by omega)).trans va_eq) | (exact (va_ne (by omega)).trans ((va_ne (by omega)).trans (by assumption))) | (exact (va_ne (by omega)).trans ((va_ne (by omega)).trans ((va_ne (by omega)).trans (by assumption)))) | rfl | (exact Or.inl rfl) | (exact Or.inr rfl) | omega | (exact Nat.le_of_ble_eq_true rfl) | decide | (exact ⟨by decide, rfl, by decide⟩)) (by first | assumption | (exact mL_get (by decide)) | (rw [mL_len]; decide) | (simp only [mL_set]; exact mL_get (by decide)) | (simp only [mL_set, mL_len]; decide) | (exact va_eq) | (exact (va_ne (by omega)).trans (by assumption)) | (exact (va_ne (by omega)).trans va_eq) | (exact (va_ne (by omega)).trans ((va_ne (by omega)).trans (by assumption))) | (exact (va_ne (by omega)).trans ((va_ne (by omega)).trans ((va_ne (by omega)).trans (by assumption)))) | rfl | (exact Or.inl rfl) | (exact Or.inr rfl) | omega | (exact Nat.le_of_ble_eq_true rfl) | decide | (exact ⟨by decide, rfl, by decide⟩)) ?_
            refine sv_fit hn hl (fun l' hl' => ?_)
            refine b_180_165 _ _ _ ?_
            exact k _ l' hl'
          · intro _
            refine b_180_154 _ _ _ (by first | assumption | (exact mL_get (by decide)) | (rw [mL_len]; decide) | (simp only [mL_set]; exact mL_get (by decide)) | (simp only [mL_set, mL_len]; decide) | (exact va_eq) | (exact (va_ne (by omega)).trans (by assumption)) | (exact (va_ne (by omega)).trans va_eq) | (exact (va_ne (by omega)).trans ((va_ne (by omega)).trans (by assumption))) | (exact (va_ne (by omega)).trans ((va_ne (by omega)).trans ((va_ne (by omega)).trans (by assumption)))) | rfl | (exact Or.inl rfl) | (exact Or.inr rfl) | omega | (exact Nat.le_of_ble_eq_true rfl) | decide | (exact ⟨by decide, rfl, by decide⟩)) (by first | assumption | (exact mL_get (by decide)) | (rw [mL_len]; decide) | (simp only [mL_set]; exact mL_get (by decide)) | (simp only [mL_set, mL_len]; decide) | (exact va_eq) | (exact (va_ne (by omega)).trans (by assumption)) | (exact (va_ne (by omega)).trans va_eq) | (exact (va_ne (by omega)).trans ((va_ne (by omega)).trans (by assumption))) | (exact (va_ne (by omega)).trans ((va_ne (by omega)).trans ((va_ne (by omega)).trans (by assumption)))) | rfl | (exact Or.inl rfl) | (exact Or.inr rfl) | omega | (exact Nat.le_of_ble_eq_true rfl) | decide | (exact ⟨by decide, rfl, by decide⟩)) (by first | assumption | (exact mL_get (by decide)) | (rw [mL_len]; decide) | (simp only [mL_set]; exact mL_get (by decide)) | (simp only [mL_set, mL_len]; decide) | (exact va_eq) | (exact (va_ne (by omega)).trans (by assumption)) | (exact (va_ne (by omega)).trans va_eq) | (exact (va_ne (by omega)).trans ((va_ne (by omega)).trans (by assumption))) | (exact (va_ne (by omega)).trans ((va_ne (by omega)).trans ((va_ne (by omega)).trans (by assumption)))) | rfl | (exact Or.inl rfl) | (exact Or.inr rfl) | omega | (exact Nat.le_of_ble_eq_true rfl) | decide | (exact ⟨by decide, rfl, by decide⟩)) (by first | assumption | (exact mL_get (by decide)) | (rw [mL_len]; decide) | (simp only [mL_set]; exact mL_get (by decide)) | (simp only [mL_set, mL_len]; decide) | (exact va_eq) | (exact (va_ne (by omega)).trans (by assumption)) | (exact (va_ne (by omega)).trans va_eq) | (exact (va_ne (by omega)).trans ((va_ne (by omega)).trans (by assumption))) | (exact (va_ne (by omega)).trans ((va_ne (by omega)).trans ((va_ne (by omega)).trans (by assumption)))) | rfl | (exact Or.inl rfl) | (exact Or.inr rfl) | omega | (exact Nat.le_of_ble_eq_true rfl) | decide | (exact ⟨by decide, rfl, by decide⟩)) ?_
            rw [mr_u_set]
            refine b_180_159 _ _ _ (by first | assumption | (exact mL_get (by decide)) | (rw [mL_len]; decide) | (simp only [mL_set]; exact mL_get (by decide)) | (simp only [mL_set, mL_len]; decide) | (exact va_eq) | (exact (va_ne (by omega)).trans (by assumption)) | (exact (va_ne (by omega)).trans va_eq) | (exact (va_ne (by omega)).trans ((va_ne (by omega)).trans (by assumption))) | (exact (va_ne (by omega)).trans ((va_ne (by omega)).trans ((va_ne (by omega)).trans (by assumption)))) | rfl | (exact Or.inl rfl) | (exact Or.inr rfl) | omega | (exact Nat.le_of_ble_eq_true rfl) | decide | (exact ⟨by decide, rfl, by decide⟩)) (by first | assumption | (exact mL_get (by decide)) | (rw [mL_len]; decide) | (simp only [mL_set]; exact mL_get (by decide)) | (simp only [mL_set, mL_len]; decide) | (exact va_eq) | (exact (va_ne (by omega)).trans (by assumption)) | (exact (va_ne (by omega)).trans va_eq) | (exact (va_ne (by omega)).trans ((va_ne (by omega)).trans (by assumption))) | (exact (va_ne (by omega)).trans ((va_ne (by omega)).trans ((va_ne (by omega)).trans (by assumption)))) | rfl | (exact Or.inl rfl) | (exact Or.inr rfl) | omega | (exact Nat.le_of_ble_eq_true rfl) | decide | (exact ⟨by decide, rfl, by decide⟩)) ?_
            refine sv_fit hn (Or.inr rfl) (fun l' hl' => ?_)
            refine b_180_165 _ _ _ ?_
            exact k _ l' hl'
        · intro _
          refine b_180_113 _ _ _ ?_ ?_
          · intro e
            have e' : ¬ y = 0 := fun z => e (by subst z; exact lg_eq 0)
            refine b_180_124 _ _ _ (by first | assumption | (exact mL_get (by decide)) | (rw [mL_len]; decide) | (simp only [mL_set]; exact mL_get (by decide)) | (simp only [mL_set, mL_len]; decide) | (exact va_eq) | (exact (va_ne (by omega)).trans (by assumption)) | (exact (va_ne (by omega)).trans va_eq) | (exact (va_ne (by omega)).trans ((va_ne (by omega)).trans (by assumption))) | (exact (va_ne (by omega)).trans ((va_ne (by omega)).trans ((va_ne (by omega)).trans (by assumption)))) | rfl | (exact Or.inl rfl) | (exact Or.inr rfl) | omega | (exact Nat.le_of_ble_eq_true rfl) | decide | (exact ⟨by decide, rfl, by decide⟩)) (by first | assumption | (exact mL_get (by decide)) | (rw [mL_len]; decide) | (simp only [mL_set]; exact mL_get (by decide)) | (simp only [mL_set, mL_len]; decide) | (exact va_eq) | (exact (va_ne (by omega)).trans (by assumption)) | (exact (va_ne (by omega)).trans va_eq) | (exact (va_ne (by omega)).trans ((va_ne (by omega)).trans (by assumption))) | (exact (va_ne (by omega)).trans ((va_ne (by omega)).trans ((va_ne (by omega)).trans (by assumption)))) | rfl | (exact Or.inl rfl) | (exact Or.inr rfl) | omega | (exact Nat.le_of_ble_eq_true rfl) | decide | (exact ⟨by decide, rfl, by decide⟩)) (by first | assumption | (exact mL_get (by decide)) | (rw [mL_len]; decide) | (simp only [mL_set]; exact mL_get (by decide)) | (simp only [mL_set, mL_len]; decide) | (exact va_eq) | (exact (va_ne (by omega)).trans (by assumption)) | (exact (va_ne (by omega)).trans va_eq) | (exact (va_ne (by omega)).trans ((va_ne (by omega)).trans (by assumption))) | (exact (va_ne (by omega)).trans ((va_ne (by omega)).trans ((va_ne (by omega)).trans (by assumption)))) | rfl | (exact Or.inl rfl) | (exact Or.inr rfl) | omega | (exact Nat.le_of_ble_eq_true rfl) | decide | (exact ⟨by decide, rfl, by decide⟩)) ?_
            refine sv_fit hn hl (fun l' hl' => ?_)
            refine b_180_132 _ _ _ ?_
            exact k _ l' hl'
          · intro _
            refine b_180_120 _ _ _ ?_
            refine b_180_132 _ _ _ ?_
            exact k _ l hl
      · intro _
        exact h21
  · intro _
    refine b_180_7 _ _ _ ?_
    exact k _ l hl
end
