/-! the second object: end -/
def rfb (x : Int32) : Prop := ¬ x = 10 ∧ ¬ ((32 : Int64) ≤ x.toInt64 ∧ x.toInt64 ≤ 126)
def rG (oc tx : Nat → Int32) (i k : Nat) : Int32 := if k < i then oc k else tx k
section
variable {d e n sl : Nat} {s : Value} {Q : (Option Value ⊕ Nat) → mi_H → Prop} {Y : Nat → Int64} {J : Nat → Nat → Int64} {L : Nat} {f0 : Nat → mi_C} {X0 : Nat → Int32} {I0 : Nat → Nat → Int32}
def r3w (oc : Nat → Int32) (i : Nat) (x : Int32) : Prop := (x = -1 ∧ ∀ j, j < i → ¬ rfb (oc j)) ∨ ∃ w, w < i ∧ x = Int32.ofNat w ∧ rfb (oc w) ∧ ∀ j, j < w → ¬ rfb (oc j)
theorem rG_s {oc tx : Nat → Int32} {i : Nat} : upd (rG oc tx i) i (oc i) = rG oc tx (i + 1) := by
  funext k
  unfold upd rG
  by_cases e : k = i
  · rw [if_pos e, if_pos (by omega), e]
  · rw [if_neg e]
    by_cases h : k < i
    · rw [if_pos h, if_pos (by omega)]
    · rw [if_neg h, if_neg (by omega)]
theorem sq_el (hn : 575 ≤ n) (hL : L ≤ 8192) (K : ∀ f X l3, mr_B f X Y s (va_up I0 507 (rG (I0 506) (I0 507) L)) J → (∀ j, ¬ j = 3 → X j = X0 j) → r3w (I0 506) L (X 3) → (∀ q, mr_far q → f q = f0 q) → mi_W (d + 2) 141 125 [some (.ref 505), some (.int (Int32.ofNat L)), some (.int l3)] [] (n, sl, f) Q) : ∀ (t i : Nat) (f : Nat → mi_C) (X : Nat → Int32), i + t = L → mr_B f X Y s (va_up I0 507 (rG (I0 506) (I0 507) i)) J → (∀ j, ¬ j = 3 → X j = X0 j) → r3w (I0 506) i (X 3) → (∀ q, mr_far q → f q = f0 q) → mi_W (d + 2) 141 66 [some (.ref 505), some (.int (Int32.ofNat L)), some (.int (Int32.ofNat i))] [] (n, sl, f) Q := by
  intro t
  induction t with
  | zero =>
    intro i f X hi hB hX h3 hf
    obtain rfl : i = L := by omega
    refine b_141_66 _ _ _ ?_ ?_
    · intro _
      exact K f X _ hB hX h3 hf
    · intro h
      exact absurd ((of_le (by omega) (by omega)).mpr (Nat.le_refl _)) h
  | succ t ih =>
    intro i f X hi hB hX h3 hf
    have q505 := hB.1
    have qoc := hB.2.1 (506, 8200) (by decide)
    have qtx := hB.2.1 (507, 8192) (by decide)
    have hx1 := ix_of (w := i) (m := 8200) (by omega) (by omega)
    have hx2 := ix_of (w := i) (m := 8192) (by omega) (by omega)
    have eoc : va_up I0 507 (rG (I0 506) (I0 507) i) 506 = I0 506 := va_ne (by decide)
    have etx : va_up I0 507 (rG (I0 506) (I0 507) i) 507 = rG (I0 506) (I0 507) i := va_eq
    rw [eoc] at qoc
    rw [etx] at qtx
    have hB1 := hB.i (a := 507) (m := 8192) (g := upd (rG (I0 506) (I0 507) i) i (I0 506 i)) (by decide)
    have r1 := hB1.1
    have r2 : (va_up f 507 (.inl (0, 8192, .inl (upd (rG (I0 506) (I0 507) i) i (I0 506 i))))) 507 = .inl (0, 8192, .inl (upd (rG (I0 506) (I0 507) i) i (I0 506 i))) := va_eq
    have em : upd (rG (I0 506) (I0 507) i) i (I0 506 i) i = I0 506 i := mu_eq
    have hf1 : ∀ q, mr_far q → (va_up f 507 (.inl (0, 8192, .inl (upd (rG (I0 506) (I0 507) i) i (I0 506 i))))) q = f0 q := fun q hq => (va_ne (by unfold mr_far at hq; omega)).trans (hf q hq)
    have hIe : va_up (va_up I0 507 (rG (I0 506) (I0 507) i)) 507 (upd (rG (I0 506) (I0 507) i) i (I0 506 i)) = va_up I0 507 (rG (I0 506) (I0 507) (i + 1)) := by rw [va_up_up, rG_s]
    rw [hIe] at hB1
    have nx0 : ¬ rfb (I0 506 i) → r3w (I0 506) (i + 1) (X 3) := by
      intro hb
      rcases h3 with ⟨h1, h2⟩ | ⟨w, h1, h2, h4, h5⟩
      · refine Or.inl ⟨h1, fun j hj => ?_⟩
        by_cases ej : j = i
        · rw [ej]
          exact hb
        · exact h2 j (by omega)
      · exact Or.inr ⟨w, by omega, h2, h4, h5⟩
    refine b_141_66 _ _ _ ?_ ?_
    · intro h
      exact absurd ((of_le (by omega) (by omega)).mp h) (by omega)
    · intro _
      have go : ∀ (f' : Nat → mi_C) (X' : Nat → Int32), mr_B f' X' Y s (va_up I0 507 (rG (I0 506) (I0 507) (i + 1))) J → (∀ j, ¬ j = 3 → X' j = X0 j) → r3w (I0 506) (i + 1) (X' 3) → (∀ q, mr_far q → f' q = f0 q) → mi_W (d + 2) 141 119 [some (.ref 505), some (.int (Int32.ofNat L)), some (.int (Int32.ofNat i))] [] (n, sl, f') Q := by
        intro f' X' a1 a2 a3 a4
        refine b_141_119 _ _ _ ?_
        rw [of_succ]
        exact ih (i + 1) f' X' (by omega) a1 a2 a3 a4
      refine b_141_71 _ _ _ _ _ _ _ _ _ _ _ _ (by first | assumption | (exact mL_get (by decide)) | (rw [mL_len]; decide) | (simp only [mL_set]; exact mL_get (by decide)) | (simp only [mL_set, mL_len]; decide) | (exact va_eq) | (exact (va_ne (by omega)).trans (by assumption)) | (exact (va_ne (by omega)).trans va_eq) | (exact (va_ne (by omega)).trans ((va_ne (by omega)).trans (by assumption))) | (exact (va_ne (by omega)).trans ((va_ne (by omega)).trans ((va_ne (by omega)).trans (by assumption)))) | rfl | (exact Or.inl rfl) | (exact Or.inr rfl) | omega | (exact Nat.le_of_ble_eq_true rfl) | decide | (exact ⟨by decide, rfl, by decide⟩)) (by first | assumption | (exact mL_get (by decide)) | (rw [mL_len]; decide) | (simp only [mL_set]; exact mL_get (by decide)) | (simp only [mL_set, mL_len]; decide) | (exact va_eq) | (exact (va_ne (by omega)).trans (by assumption)) | (exact (va_ne (by omega)).trans va_eq) | (exact (va_ne (by omega)).trans ((va_ne (by omega)).trans (by assumption))) | (exact (va_ne (by omega)).trans ((va_ne (by omega)).trans ((va_ne (by omega)).trans (by assumption)))) | rfl | (exact Or.inl rfl) | (exact Or.inr rfl) | omega | (exact Nat.le_of_ble_eq_true rfl) | decide | (exact ⟨by decide, rfl, by decide⟩)) (by first | assumption | (exact mL_get (by decide)) | (rw [mL_len]; decide) | (simp only [mL_set]; exact mL_get (by decide)) | (simp only [mL_set, mL_len]; decide) | (exact va_eq) | (exact (va_ne (by omega)).trans (by assumption)) | (exact (va_ne (by omega)).trans va_eq) | (exact (va_ne (by omega)).trans ((va_ne (by omega)).trans (by assumption))) | (exact (va_ne (by omega)).trans ((va_ne (by omega)).trans ((va_ne (by omega)).trans (by assumption)))) | rfl | (exact Or.inl rfl) | (exact Or.inr rfl) | omega | (exact Nat.le_of_ble_eq_true rfl) | decide | (exact ⟨by decide, rfl, by decide⟩)) (by first | assumption | (exact mL_get (by decide)) | (rw [mL_len]; decide) | (simp only [mL_set]; exact mL_get (by decide)) | (simp only [mL_set, mL_len]; decide) | (exact va_eq) | (exact (va_ne (by omega)).trans (by assumption)) | (exact (va_ne (by omega)).trans va_eq) | (exact (va_ne (by omega)).trans ((va_ne (by omega)).trans (by assumption))) | (exact (va_ne (by omega)).trans ((va_ne (by omega)).trans ((va_ne (by omega)).trans (by assumption)))) | rfl | (exact Or.inl rfl) | (exact Or.inr rfl) | omega | (exact Nat.le_of_ble_eq_true rfl) | decide | (exact ⟨by decide, rfl, by decide⟩)) (by first | assumption | (exact mL_get (by decide)) | (rw [mL_len]; decide) | (simp only [mL_set]; exact mL_get (by decide)) | (simp only [mL_set, mL_len]; decide) | (exact va_eq) | (exact (va_ne (by omega)).trans (by assumption)) | (exact (va_ne (by omega)).trans va_eq) | (exact (va_ne (by omega)).trans ((va_ne (by omega)).trans (by assumption))) | (exact (va_ne (by omega)).trans ((va_ne (by omega)).trans ((va_ne (by omega)).trans (by assumption)))) | rfl | (exact Or.inl rfl) | (exact Or.inr rfl) | omega | (exact Nat.le_of_ble_eq_true rfl) | decide | (exact ⟨by decide, rfl, by decide⟩)) (by first | assumption | (exact mL_get (by decide)) | (rw [mL_len]; decide) | (simp only [mL_set]; exact mL_get (by decide)) | (simp only [mL_set, mL_len]; decide) | (exact va_eq) | (exact (va_ne (by omega)).trans (by assumption)) | (exact (va_ne (by omega)).trans va_eq) | (exact (va_ne (by omega)).trans ((va_ne (by omega)).trans (by assumption))) | (exact (va_ne (by omega)).trans ((va_ne (by omega)).trans ((va_ne (by omega)).trans (by assumption)))) | rfl | (exact Or.inl rfl) | (exact Or.inr rfl) | omega | (exact Nat.le_of_ble_eq_true rfl) | decide | (exact ⟨by decide, rfl, by decide⟩)) (by first | assumption | (exact mL_get (by decide)) | (rw [mL_len]; decide) | (simp only [mL_set]; exact mL_get (by decide)) | (simp only [mL_set, mL_len]; decide) | (exact va_eq) | (exact (va_ne (by omega)).trans (by assumption)) | (exact (va_ne (by omega)).trans va_eq) | (exact (va_ne (by omega)).trans ((va_ne (by omega)).trans (by assumption))) | (exact (va_ne (by omega)).trans ((va_ne (by omega)).trans ((va_ne (by omega)).trans (by assumption)))) | rfl | (exact Or.inl rfl) | (exact Or.inr rfl) | omega | (exact Nat.le_of_ble_eq_true rfl) | decide | (exact ⟨by decide, rfl, by decide⟩)) (by first | assumption | (exact mL_get (by decide)) | (rw [mL_len]; decide) | (simp only [mL_set]; exact mL_get (by decide)) | (simp only [mL_set, mL_len]; decide) | (exact va_eq) | (exact (va_ne (by omega)).trans (by assumption)) | (exact (va_ne (by omega)).trans va_eq) | (exact (va_ne (by omega)).trans ((va_ne (by omega)).trans (by assumption))) | (exact (va_ne (by omega)).trans ((va_ne (by omega)).trans ((va_ne (by omega)).trans (by assumption)))) | rfl | (exact Or.inl rfl) | (exact Or.inr rfl) | omega | (exact Nat.le_of_ble_eq_true rfl) | decide | (exact ⟨by decide, rfl, by decide⟩)) (by first | assumption | (exact mL_get (by decide)) | (rw [mL_len]; decide) | (simp only [mL_set]; exact mL_get (by decide)) | (simp only [mL_set, mL_len]; decide) | (exact va_eq) | (exact (va_ne (by omega)).trans (by assumption)) | (exact (va_ne (by omega)).trans va_eq) | (exact (va_ne (by omega)).trans ((va_ne (by omega)).trans (by assumption))) | (exact (va_ne (by omega)).trans ((va_ne (by omega)).trans ((va_ne (by omega)).trans (by assumption)))) | rfl | (exact Or.inl rfl) | (exact Or.inr rfl) | omega | (exact Nat.le_of_ble_eq_true rfl) | decide | (exact ⟨by decide, rfl, by decide⟩)) (by first | assumption | (exact mL_get (by decide)) | (rw [mL_len]; decide) | (simp only [mL_set]; exact mL_get (by decide)) | (simp only [mL_set, mL_len]; decide) | (exact va_eq) | (exact (va_ne (by omega)).trans (by assumption)) | (exact (va_ne (by omega)).trans va_eq) | (exact (va_ne (by omega)).trans ((va_ne (by omega)).trans (by assumption))) | (exact (va_ne (by omega)).trans ((va_ne (by omega)).trans ((va_ne (by omega)).trans (by assumption)))) | rfl | (exact Or.inl rfl) | (exact Or.inr rfl) | omega | (exact Nat.le_of_ble_eq_true rfl) | decide | (exact ⟨by decide, rfl, by decide⟩)) (by first | assumption | (exact mL_get (by decide)) | (rw [mL_len]; decide) | (simp only [mL_set]; exact mL_get (by decide)) | (simp only [mL_set, mL_len]; decide) | (exact va_eq) | (exact (va_ne (by omega)).trans (by assumption)) | (exact (va_ne (by omega)).trans va_eq) | (exact (va_ne (by omega)).trans ((va_ne (by omega)).trans (by assumption))) | (exact (va_ne (by omega)).trans ((va_ne (by omega)).trans ((va_ne (by omega)).trans (by assumption)))) | rfl | (exact Or.inl rfl) | (exact Or.inr rfl) | omega | (exact Nat.le_of_ble_eq_true rfl) | decide | (exact ⟨by decide, rfl, by decide⟩)) (by first | assumption | (exact mL_get (by decide)) | (rw [mL_len]; decide) | (simp only [mL_set]; exact mL_get (by decide)) | (simp only [mL_set, mL_len]; decide) | (exact va_eq) | (exact (va_ne (by omega)).trans (by assumption)) | (exact (va_ne (by omega)).trans va_eq) | (exact (va_ne (by omega)).trans ((va_ne (by omega)).trans (by assumption))) | (exact (va_ne (by omega)).trans ((va_ne (by omega)).trans ((va_ne (by omega)).trans (by assumption)))) | rfl | (exact Or.inl rfl) | (exact Or.inr rfl) | omega | (exact Nat.le_of_ble_eq_true rfl) | decide | (exact ⟨by decide, rfl, by decide⟩)) (by first | assumption | (exact mL_get (by decide)) | (rw [mL_len]; decide) | (simp only [mL_set]; exact mL_get (by decide)) | (simp only [mL_set, mL_len]; decide) | (exact va_eq) | (exact (va_ne (by omega)).trans (by assumption)) | (exact (va_ne (by omega)).trans va_eq) | (exact (va_ne (by omega)).trans ((va_ne (by omega)).trans (by assumption))) | (exact (va_ne (by omega)).trans ((va_ne (by omega)).trans ((va_ne (by omega)).trans (by assumption)))) | rfl | (exact Or.inl rfl) | (exact Or.inr rfl) | omega | (exact Nat.le_of_ble_eq_true rfl) | decide | (exact ⟨by decide, rfl, by decide⟩)) (by first | assumption | (exact mL_get (by decide)) | (rw [mL_len]; decide) | (simp only [mL_set]; exact mL_get (by decide)) | (simp only [mL_set, mL_len]; decide) | (exact va_eq) | (exact (va_ne (by omega)).trans (by assumption)) | (exact (va_ne (by omega)).trans va_eq) | (exact (va_ne (by omega)).trans ((va_ne (by omega)).trans (by assumption))) | (exact (va_ne (by omega)).trans ((va_ne (by omega)).trans ((va_ne (by omega)).trans (by assumption)))) | rfl | (exact Or.inl rfl) | (exact Or.inr rfl) | omega | (exact Nat.le_of_ble_eq_true rfl) | decide | (exact ⟨by decide, rfl, by decide⟩)) (by first | assumption | (exact mL_get (by decide)) | (rw [mL_len]; decide) | (simp only [mL_set]; exact mL_get (by decide)) | (simp only [mL_set, mL_len]; decide) | (exact va_eq) | (exact (va_ne (by omega)).trans (by assumption)) | (exact (va_ne (by omega)).trans va_eq) | (exact (va_ne (by omega)).trans ((va_ne (by omega)).trans (by assumption))) | (exact (va_ne (by omega)).trans ((va_ne (by omega)).trans ((va_ne (by omega)).trans (by assumption)))) | rfl | (exact Or.inl rfl) | (exact Or.inr rfl) | omega | (exact Nat.le_of_ble_eq_true rfl) | decide | (exact ⟨by decide, rfl, by decide⟩)) (by first | assumption | (exact mL_get (by decide)) | (rw [mL_len]; decide) | (simp only [mL_set]; exact mL_get (by decide)) | (simp only [mL_set, mL_len]; decide) | (exact va_eq) | (exact (va_ne (by omega)).trans (by assumption)) | (exact (va_ne (by omega)).trans va_eq) | (exact (va_ne (by omega)).trans ((va_ne (by omega)).trans (by assumption))) | (exact (va_ne (by omega)).trans ((va_ne (by omega)).trans ((va_ne (by omega)).trans (by assumption)))) | rfl | (exact Or.inl rfl) | (exact Or.inr rfl) | omega | (exact Nat.le_of_ble_eq_true rfl) | decide | (exact ⟨by decide, rfl, by decide⟩)) (by first | assumption | (exact mL_get (by decide)) | (rw [mL_len]; decide) | (simp only [mL_set]; exact mL_get (by decide)) | (simp only [mL_set, mL_len]; decide) | (exact va_eq) | (exact (va_ne (by omega)).trans (by assumption)) | (exact (va_ne (by omega)).trans va_eq) | (exact (va_ne (by omega)).trans ((va_ne (by omega)).trans (by assumption))) | (exact (va_ne (by omega)).trans ((va_ne (by omega)).trans ((va_ne (by omega)).trans (by assumption)))) | rfl | (exact Or.inl rfl) | (exact Or.inr rfl) | omega | (exact Nat.le_of_ble_eq_true rfl) | decide | (exact ⟨by decide, rfl, by decide⟩)) (by first | assumption | (exact mL_get (by decide)) | (rw [mL_len]; decide) | (simp only [mL_set]; exact mL_get (by decide)) | (simp only [mL_set, mL_len]; decide) | (exact va_eq) | (exact (va_ne (by omega)).trans (by assumption)) | (exact (va_ne (by omega)).trans va_eq) | (exact (va_ne (by omega)).trans ((va_ne (by omega)).trans (by assumption))) | (exact (va_ne (by omega)).trans ((va_ne (by omega)).trans ((va_ne (by omega)).trans (by assumption)))) | rfl | (exact Or.inl rfl) | (exact Or.inr rfl) | omega | (exact Nat.le_of_ble_eq_true rfl) | decide | (exact ⟨by decide, rfl, by decide⟩)) ?_ ?_
      · intro z71
        rw [em] at z71
        exact go _ X hB1 hX (nx0 (fun h => h.1 z71)) hf1
      · intro z71
        rw [em] at z71
        generalize hff : va_up f 507 (.inl (0, 8192, .inl (upd (rG (I0 506) (I0 507) i) i (I0 506 i)))) = f1 at *
        refine b_141_94 _ _ _ _ _ _ (by first | assumption | (exact mL_get (by decide)) | (rw [mL_len]; decide) | (simp only [mL_set]; exact mL_get (by decide)) | (simp only [mL_set, mL_len]; decide) | (exact va_eq) | (exact (va_ne (by omega)).trans (by assumption)) | (exact (va_ne (by omega)).trans va_eq) | (exact (va_ne (by omega)).trans ((va_ne (by omega)).trans (by assumption))) | (exact (va_ne (by omega)).trans ((va_ne (by omega)).trans ((va_ne (by omega)).trans (by assumption)))) | rfl | (exact Or.inl rfl) | (exact Or.inr rfl) | omega | (exact Nat.le_of_ble_eq_true rfl) | decide | (exact ⟨by decide, rfl, by decide⟩)) (by first | assumption | (exact mL_get (by decide)) | (rw [mL_len]; decide) | (simp only [mL_set]; exact mL_get (by decide)) | (simp only [mL_set, mL_len]; decide) | (exact va_eq) | (exact (va_ne (by omega)).trans (by assumption)) | (exact (va_ne (by omega)).trans va_eq) | (exact (va_ne (by omega)).trans ((va_ne (by omega)).trans (by assumption))) | (exact (va_ne (by omega)).trans ((va_ne (by omega)).trans ((va_ne (by omega)).trans (by assumption)))) | rfl | (exact Or.inl rfl) | (exact Or.inr rfl) | omega | (exact Nat.le_of_ble_eq_true rfl) | decide | (exact ⟨by decide, rfl, by decide⟩)) (by first | assumption | (exact mL_get (by decide)) | (rw [mL_len]; decide) | (simp only [mL_set]; exact mL_get (by decide)) | (simp only [mL_set, mL_len]; decide) | (exact va_eq) | (exact (va_ne (by omega)).trans (by assumption)) | (exact (va_ne (by omega)).trans va_eq) | (exact (va_ne (by omega)).trans ((va_ne (by omega)).trans (by assumption))) | (exact (va_ne (by omega)).trans ((va_ne (by omega)).trans ((va_ne (by omega)).trans (by assumption)))) | rfl | (exact Or.inl rfl) | (exact Or.inr rfl) | omega | (exact Nat.le_of_ble_eq_true rfl) | decide | (exact ⟨by decide, rfl, by decide⟩)) (by first | assumption | (exact mL_get (by decide)) | (rw [mL_len]; decide) | (simp only [mL_set]; exact mL_get (by decide)) | (simp only [mL_set, mL_len]; decide) | (exact va_eq) | (exact (va_ne (by omega)).trans (by assumption)) | (exact (va_ne (by omega)).trans va_eq) | (exact (va_ne (by omega)).trans ((va_ne (by omega)).trans (by assumption))) | (exact (va_ne (by omega)).trans ((va_ne (by omega)).trans ((va_ne (by omega)).trans (by assumption)))) | rfl | (exact Or.inl rfl) | (exact Or.inr rfl) | omega | (exact Nat.le_of_ble_eq_true rfl) | decide | (exact ⟨by decide, rfl, by decide⟩)) (by first | assumption | (exact mL_get (by decide)) | (rw [mL_len]; decide) | (simp only [mL_set]; exact mL_get (by decide)) | (simp only [mL_set, mL_len]; decide) | (exact va_eq) | (exact (va_ne (by omega)).trans (by assumption)) | (exact (va_ne (by omega)).trans va_eq) | (exact (va_ne (by omega)).trans ((va_ne (by omega)).trans (by assumption))) | (exact (va_ne (by omega)).trans ((va_ne (by omega)).trans ((va_ne (by omega)).trans (by assumption)))) | rfl | (exact Or.inl rfl) | (exact Or.inr rfl) | omega | (exact Nat.le_of_ble_eq_true rfl) | decide | (exact ⟨by decide, rfl, by decide⟩)) (by first | assumption | (exact mL_get (by decide)) | (rw [mL_len]; decide) | (simp only [mL_set]; exact mL_get (by decide)) | (simp only [mL_set, mL_len]; decide) | (exact va_eq) | (exact (va_ne (by omega)).trans (by assumption)) | (exact (va_ne (by omega)).trans va_eq) | (exact (va_ne (by omega)).trans ((va_ne (by omega)).trans (by assumption))) | (exact (va_ne (by omega)).trans ((va_ne (by omega)).trans ((va_ne (by omega)).trans (by assumption)))) | rfl | (exact Or.inl rfl) | (exact Or.inr rfl) | omega | (exact Nat.le_of_ble_eq_true rfl) | decide | (exact ⟨by decide, rfl, by decide⟩)) ?_
        rw [em]
        refine s_in (fun hin => ?_) (fun hin => ?_)
        · refine b_141_110 _ _ _ ?_ ?_
          · intro _
            exact go f1 X hB1 hX (nx0 (fun h => h.2 hin)) hf1
          · intro h
            exact absurd (by decide) h
        · refine b_141_110 _ _ _ ?_ ?_
          · intro h
            exact absurd rfl h
          · intro _
            refine b_141_113 _ _ _ (by first | assumption | (exact mL_get (by decide)) | (rw [mL_len]; decide) | (simp only [mL_set]; exact mL_get (by decide)) | (simp only [mL_set, mL_len]; decide) | (exact va_eq) | (exact (va_ne (by omega)).trans (by assumption)) | (exact (va_ne (by omega)).trans va_eq) | (exact (va_ne (by omega)).trans ((va_ne (by omega)).trans (by assumption))) | (exact (va_ne (by omega)).trans ((va_ne (by omega)).trans ((va_ne (by omega)).trans (by assumption)))) | rfl | (exact Or.inl rfl) | (exact Or.inr rfl) | omega | (exact Nat.le_of_ble_eq_true rfl) | decide | (exact ⟨by decide, rfl, by decide⟩)) (by first | assumption | (exact mL_get (by decide)) | (rw [mL_len]; decide) | (simp only [mL_set]; exact mL_get (by decide)) | (simp only [mL_set, mL_len]; decide) | (exact va_eq) | (exact (va_ne (by omega)).trans (by assumption)) | (exact (va_ne (by omega)).trans va_eq) | (exact (va_ne (by omega)).trans ((va_ne (by omega)).trans (by assumption))) | (exact (va_ne (by omega)).trans ((va_ne (by omega)).trans ((va_ne (by omega)).trans (by assumption)))) | rfl | (exact Or.inl rfl) | (exact Or.inr rfl) | omega | (exact Nat.le_of_ble_eq_true rfl) | decide | (exact ⟨by decide, rfl, by decide⟩)) ?_
            refine sp_bad hn hB1 (fun h => ?_) (fun h f' hB' hf' => ?_)
            · refine b_141_118 _ _ _ ?_
              rcases h3 with ⟨h1, h2⟩ | h3
              · exact absurd h (by rw [h1]; decide)
              · obtain ⟨w, h1, h2, h4, h5⟩ := h3
                exact go f1 X hB1 hX (Or.inr ⟨w, by omega, h2, h4, h5⟩) hf1
            · refine b_141_118 _ _ _ ?_
              refine go f' _ hB' (fun j hj => (va_ne hj).trans (hX j hj)) ?_ (fun q hq => (hf' q (by unfold mr_far at hq; omega)).trans (hf1 q hq))
              rw [va_eq]
              rcases h3 with ⟨h1, h2⟩ | ⟨w, h1, h2, h4, h5⟩
              · exact Or.inr ⟨i, Nat.lt_succ_self _, rfl, ⟨z71, hin⟩, h2⟩
              · exact absurd (show 0 ≤ X 3 by rw [h2]; exact of_np (by omega)) h
theorem ri_of {c : Int32} (h1 : 0 ≤ c.toInt) : c = Int32.ofNat c.toInt.toNat := by
  have h2 := Int32.toInt_lt c
  rw [← Int32.toInt_inj, Int32.toInt_ofNat_of_lt (by omega)]
  omega
def mb_t (L : Nat) (σ : ms_S) : Prop := σ.t.a ≤ L ∧ σ.t.b ≤ L
def mb {α : Type} (L : Nat) (r : ms_R α) : Prop := match r with
  | .error w => w ≤ L
  | .ok (_, σ) => mb_t L σ
theorem mb_bind {α β : Type} {r : ms_R α} {h : α → ms_S → ms_R β} (hr : mb L r) (hh : ∀ x σ, mb_t L σ → mb L (h x σ)) : mb L (ms_eb r h) := by
  match r, hr with
  | .error w, hr => exact hr
  | .ok (x, σ), hr => exact hh x σ hr
section
variable {g : Nat → Int32} {σ : ms_S}
theorem mb_nx (h : mb_t L σ) : mb_t L (σ.nx g L) := by
  have := ms_nx_le (g := g) (L := L) (p := σ.t.b) h.2
  exact ⟨show (ms_nx g L σ.t.b).a ≤ L by omega, show (ms_nx g L σ.t.b).b ≤ L by omega⟩
theorem mb_need (h : mb_t L σ) {k : Nat} : mb L (ms_need g L k σ) := by
  unfold ms_need
  split
  · exact mb_nx h
  · exact h.1
theorem mb_pa (h : mb_t L σ) : mb L (ms_pa g L σ) := by
  unfold ms_pa
  split
  · split
    · exact h.1
    · exact mb_nx (σ := σ.sP (ms_nn g σ σ.P)) h
  · exact h.1
theorem mb_to (h : mb_t L σ) : mb L (ms_to g L σ) := by
  unfold ms_to
  split
  · split
    · exact h.1
    · exact mb_nx (σ := σ.sT (ms_nn g σ σ.T)) h
  · exact h.1
theorem mb_va (h : mb_t L σ) : mb L (ms_va g L σ) := by
  unfold ms_va
  split
  · split
    · exact h.1
    · exact mb_nx (σ := σ.sN (ms_nn g σ σ.N)) h
  · exact h.1
theorem mb_hc (h : mb_t L σ) : mb L (ms_hc g L σ) := by
  unfold ms_hc
  split
  · split
    · split
      · exact h.1
      · exact mb_bind (mb_pa (mb_nx h)) (fun x σ' h' => h')
    · exact (mb_nx (g := g) h).1
  · exact h.1
theorem mb_bs : ∀ (f : Nat) (σ : ms_S), mb_t L σ → mb L (ms_bs g L f σ) := by
  intro f
  induction f with
  | zero => intro σ h; exact h.1
  | succ f ih =>
    intro σ h
    rw [ms_bs_s]
    have h1 := mb_nx (g := g) h
    have h2 : mb_t L (((σ.nx g L).bnd σ.t.v (σ.nx g L).t.v).nx g L) := mb_nx (σ := (σ.nx g L).bnd σ.t.v (σ.nx g L).t.v) h1
    split
    · split
      · split
        · exact mb_nx h2
        · exact ih _ h2
      · exact h1.1
    · exact h.1
theorem mb_bd {E : Bool → ms_S → ms_R Unit} (hE : ∀ b σ, mb_t L σ → mb L (E b σ)) {op m : Nat} {v : Int64} (h : mb_t L σ) : mb L (ms_bd g L E op m v σ) := by
  unfold ms_bd
  split
  · exact mb_bind (mb_pa h) (fun _ σ h => mb_bind (mb_to h) (fun _ σ h => h))
  · exact mb_bind (hE _ _ h) (fun _ σ h => h)
  · exact mb_bind (hE _ _ h) (fun _ σ h => mb_bind (hE _ _ h) (fun _ σ h => h))
  · exact mb_bind (mb_hc h) (fun _ σ h => h)
  · exact mb_bind (mb_va h) (fun _ σ h => h)
  · exact mb_bind (hE _ _ h) (fun _ σ h => mb_bind (hE _ _ h) (fun _ σ h => mb_bind (hE _ _ h) (fun _ σ h => h)))
  · exact mb_bind (hE _ _ h) (fun _ σ h => mb_bind (hE _ _ h) (fun _ σ h => h))
  · exact mb_bind (hE _ _ h) (fun _ σ h => h)
  · exact h
theorem mb_E : ∀ (k : Nat) (b : Bool) (σ : ms_S), mb_t L σ → mb L (ms_E g L k b σ) := by
  intro k
  induction k with
  | zero => intro b σ h; exact h.1
  | succ k ih =>
    intro b σ h
    rw [ms_E_s]
    split
    · exact mb_bind (ih _ _ (mb_nx h)) (fun _ σ h => mb_need h)
    · split
      · exact h.1
      · split
        · exact h.1
        · exact mb_bd ih (mb_nx (σ := σ.add) h)
theorem mb_ac {k op : Nat} (h : mb_t L σ) : mb L (ms_ac g L (ms_E g L k) op σ) := by
  unfold ms_ac
  split
  · exact mb_bind (mb_pa h) (fun _ σ h => mb_bind (mb_pa h) (fun _ σ h => mb_bind (mb_to h) (fun _ σ h => mb_bind (mb_E k _ _ h) (fun _ σ h => h))))
  · exact mb_bind (mb_E k _ _ h) (fun _ σ h => h)
  · exact mb_bind (mb_hc h) (fun _ σ h => mb_bind (mb_need h) (fun _ σ h => mb_bind (mb_bs _ _ h) (fun _ σ h => h)))
theorem mb_as {C : ms_S → ms_R Unit} (hC : ∀ σ, mb_t L σ → mb L (C σ)) {k : Nat} : ∀ (c : Nat) (σ : ms_S), mb_t L σ → mb L (ms_as g L (ms_E g L k) C c σ) := by
  intro c
  induction c with
  | zero =>
    intro σ h
    unfold ms_as
    split
    · exact h
    · exact h.1
  | succ c ih =>
    intro σ h
    rw [ms_as_s']
    split
    · exact h
    · split
      · exact h.1
      · split
        · exact h.1
        · exact mb_bind (mb_ac (mb_nx (σ := σ.add) h)) (fun _ σ h => mb_bind (hC _ h) (fun _ σ h => mb_bind (ih _ h) (fun _ σ h => h)))
theorem mb_pt {k op m : Nat} (hC : ∀ σ, mb_t L σ → mb L (ms_C g L k σ)) (h : mb_t L σ) : mb L (ms_pt g L (ms_E g L k) (ms_C g L k) op m σ) := by
  have hti : ∀ σ, mb_t L σ → mb L (ms_ti g L σ) := by
    intro σ h
    unfold ms_ti
    split
    · exact mb_nx h
    · split
      · exact mb_nx h
      · exact h.1
  have hnum : ∀ σ, mb_t L σ → mb L (ms_num g L σ) := by
    intro σ h
    unfold ms_num
    split
    · exact mb_nx h
    · exact h.1
  unfold ms_pt
  split
  · exact h
  · exact mb_bind (mb_pa h) (fun _ σ h => mb_bind (hti _ h) (fun _ σ h => mb_bind (mb_pa h) (fun _ σ h => mb_bind (mb_to h) (fun _ σ h => mb_bind (mb_E k _ _ h) (fun _ σ h => mb_bind (hC _ h) (fun _ σ h => h))))))
  · exact mb_bind (mb_E k _ _ h) (fun _ σ h => mb_bind (hC _ h) (fun _ σ h => mb_bind (hC _ h) (fun _ σ h => h)))
  · exact mb_bind (mb_need h) (fun _ σ h => mb_bind (mb_as hC 8 _ h) (fun _ σ h => mb_bind (hnum _ (mb_nx h)) (fun _ σ h => mb_bind (hC _ h) (fun _ σ h => h))))
  · exact mb_bind (mb_va h) (fun _ σ h => mb_bind (mb_E k _ _ h) (fun _ σ h => mb_bind (hC _ h) (fun _ σ h => h)))
  · exact mb_bind (mb_E k _ _ h) (fun _ σ h => mb_bind (hC _ h) (fun _ σ h => h))
theorem mb_C : ∀ (k : Nat) (σ : ms_S), mb_t L σ → mb L (ms_C g L k σ) := by
  intro k
  induction k with
  | zero => intro σ h; exact h.1
  | succ k ih =>
    intro σ h
    rw [ms_Cr_s]
    split
    · exact mb_bind (ih _ (mb_nx h)) (fun _ σ h => mb_need h)
    · split
      · exact h.1
      · split
        · exact h.1
        · exact mb_pt ih (mb_nx (σ := σ.add) h)
end
theorem ms_read_le {g : Nat → Int32} {w : Nat} (hL : L ≤ 8192) (h : ms_read g L = .error w) : w ≤ 8192 := by
  have h0 : mb_t L (ms_s0 g L) := by
    have := ms_nx_le (g := g) (L := L) (p := 0) (Nat.zero_le _)
    exact ⟨show (ms_nx g L 0).a ≤ L by omega, show (ms_nx g L 0).b ≤ L by omega⟩
  have hm : mb L (ms_read g L) := mb_bind (mb_C 100 _ h0) (fun _ σ h => by
    split
    · exact h
    · exact h.1)
  rw [h] at hm
  exact Nat.le_trans hm hL
def mr_X1 (X : Nat → Int32) (l : Int32) : Nat → Int32 := va_up (va_up (va_up (va_up (va_up (va_up X 0 0) 1 0) 3 (-1)) 4 (-1)) 59 0) 2 l
theorem sq_end {f : Nat → mi_C} {X : Nat → Int32} {I : Nat → Nat → Int32} {ev : mr_E} {x : Int32} {fd : Nat} (hn : 575 ≤ n) (hB : mr_B f X Y s I J) (hK : mr_KS n f) (hS : mr_Sv f 531 ev) (hfd : X 1 = Int32.ofNat fd) (hfd2 : fd ≤ 8200) (K1 : (x < 0 ∨ 8192 < x ∨ ¬ x ≤ X 1) → ∀ f', mr_B f' (va_up X 0 1) Y s I J → (∀ q, ¬ q = 505 → f' q = f q) → Q (.inl (some (.int 0))) (n, sl, f')) (K2 : ∀ L w z', x = Int32.ofNat L → L ≤ 8192 → L ≤ fd → ((w < L ∧ rfb (I 506 w) ∧ ∀ j, j < w → ¬ rfb (I 506 j)) ∨ (∀ j, j < L → ¬ rfb (I 506 j)) ∧ ms_read (rG (I 506) (I 507) L) L = .error w) → mr_er n s (f, va_up (mr_X1 X x) 0 2, Y, va_up I 507 (rG (I 506) (I 507) L), J) z' w → Q (.inl (some (.int 0))) (n, sl, z'.f)) (K3 : ∀ L z' σ e', x = Int32.ofNat L → L ≤ 8192 → L ≤ fd → (∀ j, j < L → ¬ rfb (I 506 j)) → ms_read (rG (I 506) (I 507) L) L = .ok ((), σ) → mr_st n s (rG (I 506) (I 507) L) L z' σ 100 → (∀ j, j < 2 ∨ (4 < j ∧ j < 8) ∨ (10 < j ∧ j < 21) ∨ 27 < j → z'.X j = mr_X1 X x j) → z'.X 4 = 0 → (∀ j, ¬ j = 11 → z'.Y j = Y j) → (∀ q, q < 507 ∨ q = 508 ∨ 530 < q → z'.I q = I q) → (∀ q, q < 517 ∨ 519 < q → z'.J q = J q) → mr_rg 0 σ.n z' σ → mz_ok σ.tb σ.n 100 0 0 → mr_Sv z'.f 531 e' → rS0 e' → (∀ q, q < 505 ∨ q = 508 ∨ (537 ≤ q ∧ q < 543) ∨ 574 ≤ q ∨ q = 568 → z'.f q = f q) → Q (.inl (some (.int (Int32.ofNat σ.n)))) (n, sl, z'.f)) : mi_W (e + 432) 141 0 (mi_en 3 [.ref 505, .int x]) [] (n, sl, f) Q := by
  have q505 := hB.1
  have hC0 := hB.x (k := 0) (v := 0) rfl
  have r0 := hC0.1
  have h00 : (mL 88 (mr_S (va_up X 0 0) Y s))[0]? = some (.int 0) := mL_get (by decide)
  have bad : (x < 0 ∨ 8192 < x ∨ ¬ x ≤ X 1) → ∀ f1, mr_B f1 (va_up X 0 0) Y s I J → (∀ q, ¬ q = 505 → f1 q = f q) → mi_W (e + 432) 141 25 [some (.ref 505), some (.int x), none] [.ref 505] (n, sl, f1) Q := by
    intro hb f1 hB1 hf1
    have q505 := hB1.1
    refine b_141_25 _ _ _ ?_
    refine b_141_30 _ _ _ (by first | assumption | (exact mL_get (by decide)) | (rw [mL_len]; decide) | (simp only [mL_set]; exact mL_get (by decide)) | (simp only [mL_set, mL_len]; decide) | (exact va_eq) | (exact (va_ne (by omega)).trans (by assumption)) | (exact (va_ne (by omega)).trans va_eq) | (exact (va_ne (by omega)).trans ((va_ne (by omega)).trans (by assumption))) | (exact (va_ne (by omega)).trans ((va_ne (by omega)).trans ((va_ne (by omega)).trans (by assumption)))) | rfl | (exact Or.inl rfl) | (exact Or.inr rfl) | omega | (exact Nat.le_of_ble_eq_true rfl) | decide | (exact ⟨by decide, rfl, by decide⟩)) (by first | assumption | (exact mL_get (by decide)) | (rw [mL_len]; decide) | (simp only [mL_set]; exact mL_get (by decide)) | (simp only [mL_set, mL_len]; decide) | (exact va_eq) | (exact (va_ne (by omega)).trans (by assumption)) | (exact (va_ne (by omega)).trans va_eq) | (exact (va_ne (by omega)).trans ((va_ne (by omega)).trans (by assumption))) | (exact (va_ne (by omega)).trans ((va_ne (by omega)).trans ((va_ne (by omega)).trans (by assumption)))) | rfl | (exact Or.inl rfl) | (exact Or.inr rfl) | omega | (exact Nat.le_of_ble_eq_true rfl) | decide | (exact ⟨by decide, rfl, by decide⟩)) ?_
    refine s_fails1 hB1.1 (by omega) (mL_get (by decide)) (by decide) ?_
    refine b_141_34 _ _ _ ?_ ?_
    · intro h
      exact absurd h (by decide)
    · intro _
      refine b_141_37 _ _ _ ?_
      have h1 := hB1.x (k := 0) (v := 1) rfl
      rw [va_up_up] at h1
      exact K1 hb _ h1 (fun q hq => (va_ne hq).trans (hf1 q hq))
  have good : ¬ x < 0 → ¬ 8192 < x → x ≤ X 1 → ∀ f1, mr_B f1 (va_up X 0 0) Y s I J → (∀ q, ¬ q = 505 → f1 q = f q) → mi_W (e + 432) 141 29 [some (.ref 505), some (.int x), none] [.ref 505] (n, sl, f1) Q := by
    intro z0 z10 z17 f1 hB1 hf1
    obtain ⟨L, rfl, hL⟩ : ∃ L : Nat, x = Int32.ofNat L ∧ L ≤ 8192 := by
      have h1 : 0 ≤ x.toInt := by
        rw [Int32.lt_iff_toInt_lt] at z0
        exact Int.not_lt.mp z0
      have h2 : x.toInt ≤ 8192 := by
        rw [Int32.lt_iff_toInt_lt] at z10
        exact Int.not_lt.mp z10
      exact ⟨x.toInt.toNat, ri_of h1, by omega⟩
    have hLf : L ≤ fd := by
      rw [hfd] at z17
      exact (of_le (by omega) (by omega)).mp z17
    have q505 := hB1.1
    refine b_141_29 _ _ _ ?_
    refine b_141_30 _ _ _ (by first | assumption | (exact mL_get (by decide)) | (rw [mL_len]; decide) | (simp only [mL_set]; exact mL_get (by decide)) | (simp only [mL_set, mL_len]; decide) | (exact va_eq) | (exact (va_ne (by omega)).trans (by assumption)) | (exact (va_ne (by omega)).trans va_eq) | (exact (va_ne (by omega)).trans ((va_ne (by omega)).trans (by assumption))) | (exact (va_ne (by omega)).trans ((va_ne (by omega)).trans ((va_ne (by omega)).trans (by assumption)))) | rfl | (exact Or.inl rfl) | (exact Or.inr rfl) | omega | (exact Nat.le_of_ble_eq_true rfl) | decide | (exact ⟨by decide, rfl, by decide⟩)) (by first | assumption | (exact mL_get (by decide)) | (rw [mL_len]; decide) | (simp only [mL_set]; exact mL_get (by decide)) | (simp only [mL_set, mL_len]; decide) | (exact va_eq) | (exact (va_ne (by omega)).trans (by assumption)) | (exact (va_ne (by omega)).trans va_eq) | (exact (va_ne (by omega)).trans ((va_ne (by omega)).trans (by assumption))) | (exact (va_ne (by omega)).trans ((va_ne (by omega)).trans ((va_ne (by omega)).trans (by assumption)))) | rfl | (exact Or.inl rfl) | (exact Or.inr rfl) | omega | (exact Nat.le_of_ble_eq_true rfl) | decide | (exact ⟨by decide, rfl, by decide⟩)) ?_
    refine s_fails0 hB1.1 (by omega) (mL_get (by decide)) ?_
    refine b_141_34 _ _ _ ?_ ?_
    · intro _
      have hD1 := hB1.x (k := 1) (v := 0) rfl
      have t1 := hD1.1
      have hD2 := hD1.x (k := 3) (v := -1) rfl
      have t2 := hD2.1
      have hD3 := hD2.x (k := 4) (v := -1) rfl
      have t3 := hD3.1
      have hD4 := hD3.x (k := 59) (v := 0) rfl
      have t4 := hD4.1
      have hD5 := hD4.x (k := 2) (v := Int32.ofNat L) rfl
      refine b_141_39 _ _ _ (by first | assumption | (exact mL_get (by decide)) | (rw [mL_len]; decide) | (simp only [mL_set]; exact mL_get (by decide)) | (simp only [mL_set, mL_len]; decide) | (exact va_eq) | (exact (va_ne (by omega)).trans (by assumption)) | (exact (va_ne (by omega)).trans va_eq) | (exact (va_ne (by omega)).trans ((va_ne (by omega)).trans (by assumption))) | (exact (va_ne (by omega)).trans ((va_ne (by omega)).trans ((va_ne (by omega)).trans (by assumption)))) | rfl | (exact Or.inl rfl) | (exact Or.inr rfl) | omega | (exact Nat.le_of_ble_eq_true rfl) | decide | (exact ⟨by decide, rfl, by decide⟩)) (by first | assumption | (exact mL_get (by decide)) | (rw [mL_len]; decide) | (simp only [mL_set]; exact mL_get (by decide)) | (simp only [mL_set, mL_len]; decide) | (exact va_eq) | (exact (va_ne (by omega)).trans (by assumption)) | (exact (va_ne (by omega)).trans va_eq) | (exact (va_ne (by omega)).trans ((va_ne (by omega)).trans (by assumption))) | (exact (va_ne (by omega)).trans ((va_ne (by omega)).trans ((va_ne (by omega)).trans (by assumption)))) | rfl | (exact Or.inl rfl) | (exact Or.inr rfl) | omega | (exact Nat.le_of_ble_eq_true rfl) | decide | (exact ⟨by decide, rfl, by decide⟩)) (by first | assumption | (exact mL_get (by decide)) | (rw [mL_len]; decide) | (simp only [mL_set]; exact mL_get (by decide)) | (simp only [mL_set, mL_len]; decide) | (exact va_eq) | (exact (va_ne (by omega)).trans (by assumption)) | (exact (va_ne (by omega)).trans va_eq) | (exact (va_ne (by omega)).trans ((va_ne (by omega)).trans (by assumption))) | (exact (va_ne (by omega)).trans ((va_ne (by omega)).trans ((va_ne (by omega)).trans (by assumption)))) | rfl | (exact Or.inl rfl) | (exact Or.inr rfl) | omega | (exact Nat.le_of_ble_eq_true rfl) | decide | (exact ⟨by decide, rfl, by decide⟩)) (by first | assumption | (exact mL_get (by decide)) | (rw [mL_len]; decide) | (simp only [mL_set]; exact mL_get (by decide)) | (simp only [mL_set, mL_len]; decide) | (exact va_eq) | (exact (va_ne (by omega)).trans (by assumption)) | (exact (va_ne (by omega)).trans va_eq) | (exact (va_ne (by omega)).trans ((va_ne (by omega)).trans (by assumption))) | (exact (va_ne (by omega)).trans ((va_ne (by omega)).trans ((va_ne (by omega)).trans (by assumption)))) | rfl | (exact Or.inl rfl) | (exact Or.inr rfl) | omega | (exact Nat.le_of_ble_eq_true rfl) | decide | (exact ⟨by decide, rfl, by decide⟩)) (by first | assumption | (exact mL_get (by decide)) | (rw [mL_len]; decide) | (simp only [mL_set]; exact mL_get (by decide)) | (simp only [mL_set, mL_len]; decide) | (exact va_eq) | (exact (va_ne (by omega)).trans (by assumption)) | (exact (va_ne (by omega)).trans va_eq) | (exact (va_ne (by omega)).trans ((va_ne (by omega)).trans (by assumption))) | (exact (va_ne (by omega)).trans ((va_ne (by omega)).trans ((va_ne (by omega)).trans (by assumption)))) | rfl | (exact Or.inl rfl) | (exact Or.inr rfl) | omega | (exact Nat.le_of_ble_eq_true rfl) | decide | (exact ⟨by decide, rfl, by decide⟩)) (by first | assumption | (exact mL_get (by decide)) | (rw [mL_len]; decide) | (simp only [mL_set]; exact mL_get (by decide)) | (simp only [mL_set, mL_len]; decide) | (exact va_eq) | (exact (va_ne (by omega)).trans (by assumption)) | (exact (va_ne (by omega)).trans va_eq) | (exact (va_ne (by omega)).trans ((va_ne (by omega)).trans (by assumption))) | (exact (va_ne (by omega)).trans ((va_ne (by omega)).trans ((va_ne (by omega)).trans (by assumption)))) | rfl | (exact Or.inl rfl) | (exact Or.inr rfl) | omega | (exact Nat.le_of_ble_eq_true rfl) | decide | (exact ⟨by decide, rfl, by decide⟩)) (by first | assumption | (exact mL_get (by decide)) | (rw [mL_len]; decide) | (simp only [mL_set]; exact mL_get (by decide)) | (simp only [mL_set, mL_len]; decide) | (exact va_eq) | (exact (va_ne (by omega)).trans (by assumption)) | (exact (va_ne (by omega)).trans va_eq) | (exact (va_ne (by omega)).trans ((va_ne (by omega)).trans (by assumption))) | (exact (va_ne (by omega)).trans ((va_ne (by omega)).trans ((va_ne (by omega)).trans (by assumption)))) | rfl | (exact Or.inl rfl) | (exact Or.inr rfl) | omega | (exact Nat.le_of_ble_eq_true rfl) | decide | (exact ⟨by decide, rfl, by decide⟩)) (by first | assumption | (exact mL_get (by decide)) | (rw [mL_len]; decide) | (simp only [mL_set]; exact mL_get (by decide)) | (simp only [mL_set, mL_len]; decide) | (exact va_eq) | (exact (va_ne (by omega)).trans (by assumption)) | (exact (va_ne (by omega)).trans va_eq) | (exact (va_ne (by omega)).trans ((va_ne (by omega)).trans (by assumption))) | (exact (va_ne (by omega)).trans ((va_ne (by omega)).trans ((va_ne (by omega)).trans (by assumption)))) | rfl | (exact Or.inl rfl) | (exact Or.inr rfl) | omega | (exact Nat.le_of_ble_eq_true rfl) | decide | (exact ⟨by decide, rfl, by decide⟩)) (by first | assumption | (exact mL_get (by decide)) | (rw [mL_len]; decide) | (simp only [mL_set]; exact mL_get (by decide)) | (simp only [mL_set, mL_len]; decide) | (exact va_eq) | (exact (va_ne (by omega)).trans (by assumption)) | (exact (va_ne (by omega)).trans va_eq) | (exact (va_ne (by omega)).trans ((va_ne (by omega)).trans (by assumption))) | (exact (va_ne (by omega)).trans ((va_ne (by omega)).trans ((va_ne (by omega)).trans (by assumption)))) | rfl | (exact Or.inl rfl) | (exact Or.inr rfl) | omega | (exact Nat.le_of_ble_eq_true rfl) | decide | (exact ⟨by decide, rfl, by decide⟩)) (by first | assumption | (exact mL_get (by decide)) | (rw [mL_len]; decide) | (simp only [mL_set]; exact mL_get (by decide)) | (simp only [mL_set, mL_len]; decide) | (exact va_eq) | (exact (va_ne (by omega)).trans (by assumption)) | (exact (va_ne (by omega)).trans va_eq) | (exact (va_ne (by omega)).trans ((va_ne (by omega)).trans (by assumption))) | (exact (va_ne (by omega)).trans ((va_ne (by omega)).trans ((va_ne (by omega)).trans (by assumption)))) | rfl | (exact Or.inl rfl) | (exact Or.inr rfl) | omega | (exact Nat.le_of_ble_eq_true rfl) | decide | (exact ⟨by decide, rfl, by decide⟩)) (by first | assumption | (exact mL_get (by decide)) | (rw [mL_len]; decide) | (simp only [mL_set]; exact mL_get (by decide)) | (simp only [mL_set, mL_len]; decide) | (exact va_eq) | (exact (va_ne (by omega)).trans (by assumption)) | (exact (va_ne (by omega)).trans va_eq) | (exact (va_ne (by omega)).trans ((va_ne (by omega)).trans (by assumption))) | (exact (va_ne (by omega)).trans ((va_ne (by omega)).trans ((va_ne (by omega)).trans (by assumption)))) | rfl | (exact Or.inl rfl) | (exact Or.inr rfl) | omega | (exact Nat.le_of_ble_eq_true rfl) | decide | (exact ⟨by decide, rfl, by decide⟩)) (by first | assumption | (exact mL_get (by decide)) | (rw [mL_len]; decide) | (simp only [mL_set]; exact mL_get (by decide)) | (simp only [mL_set, mL_len]; decide) | (exact va_eq) | (exact (va_ne (by omega)).trans (by assumption)) | (exact (va_ne (by omega)).trans va_eq) | (exact (va_ne (by omega)).trans ((va_ne (by omega)).trans (by assumption))) | (exact (va_ne (by omega)).trans ((va_ne (by omega)).trans ((va_ne (by omega)).trans (by assumption)))) | rfl | (exact Or.inl rfl) | (exact Or.inr rfl) | omega | (exact Nat.le_of_ble_eq_true rfl) | decide | (exact ⟨by decide, rfl, by decide⟩)) (by first | assumption | (exact mL_get (by decide)) | (rw [mL_len]; decide) | (simp only [mL_set]; exact mL_get (by decide)) | (simp only [mL_set, mL_len]; decide) | (exact va_eq) | (exact (va_ne (by omega)).trans (by assumption)) | (exact (va_ne (by omega)).trans va_eq) | (exact (va_ne (by omega)).trans ((va_ne (by omega)).trans (by assumption))) | (exact (va_ne (by omega)).trans ((va_ne (by omega)).trans ((va_ne (by omega)).trans (by assumption)))) | rfl | (exact Or.inl rfl) | (exact Or.inr rfl) | omega | (exact Nat.le_of_ble_eq_true rfl) | decide | (exact ⟨by decide, rfl, by decide⟩)) (by first | assumption | (exact mL_get (by decide)) | (rw [mL_len]; decide) | (simp only [mL_set]; exact mL_get (by decide)) | (simp only [mL_set, mL_len]; decide) | (exact va_eq) | (exact (va_ne (by omega)).trans (by assumption)) | (exact (va_ne (by omega)).trans va_eq) | (exact (va_ne (by omega)).trans ((va_ne (by omega)).trans (by assumption))) | (exact (va_ne (by omega)).trans ((va_ne (by omega)).trans ((va_ne (by omega)).trans (by assumption)))) | rfl | (exact Or.inl rfl) | (exact Or.inr rfl) | omega | (exact Nat.le_of_ble_eq_true rfl) | decide | (exact ⟨by decide, rfl, by decide⟩)) (by first | assumption | (exact mL_get (by decide)) | (rw [mL_len]; decide) | (simp only [mL_set]; exact mL_get (by decide)) | (simp only [mL_set, mL_len]; decide) | (exact va_eq) | (exact (va_ne (by omega)).trans (by assumption)) | (exact (va_ne (by omega)).trans va_eq) | (exact (va_ne (by omega)).trans ((va_ne (by omega)).trans (by assumption))) | (exact (va_ne (by omega)).trans ((va_ne (by omega)).trans ((va_ne (by omega)).trans (by assumption)))) | rfl | (exact Or.inl rfl) | (exact Or.inr rfl) | omega | (exact Nat.le_of_ble_eq_true rfl) | decide | (exact ⟨by decide, rfl, by decide⟩)) ?_
      refine mr_gen hD5 (f := f) (fun q hq => by rw [va_ne hq, va_ne hq, va_ne hq, va_ne hq, va_ne hq]; exact hf1 q hq) (fun F hBF hF => ?_)
      clear t1 t2 t3 t4 hD1 hD2 hD3 hD4 hD5 q505 r0 hC0
      have hBF : mr_B F (mr_X1 X (Int32.ofNat L)) Y s I J := hBF
      have hI0 : va_up I 507 (rG (I 506) (I 507) 0) = I := by
        rw [show rG (I 506) (I 507) 0 = I 507 from funext fun k => if_neg (Nat.not_lt_zero k)]
        exact va_self rfl
      refine sq_el (d := e + 430) (X0 := mr_X1 X (Int32.ofNat L)) (I0 := I) (f0 := f) hn hL (fun f2 X2 l3 hB2 hX2 h32 hf2 => ?_) L 0 F (mr_X1 X (Int32.ofNat L)) (by omega) (by rw [hI0]; exact hBF) (fun _ _ => rfl) (Or.inl ⟨rfl, fun j hj => absurd hj (Nat.not_lt_zero _)⟩) (fun q hq => hF q (by unfold mr_far at hq; omega))
      have fail : ∀ z' w, ((w < L ∧ rfb (I 506 w) ∧ ∀ j, j < w → ¬ rfb (I 506 j)) ∨ (∀ j, j < L → ¬ rfb (I 506 j)) ∧ ms_read (rG (I 506) (I 507) L) L = .error w) → w ≤ 8192 → mr_er n s (f2, X2, Y, va_up I 507 (rG (I 506) (I 507) L), J) z' w → mi_W (e + 432) 141 136 [some (.ref 505), some (.int (Int32.ofNat L)), some (.int l3)] [] (n, sl, z'.f) Q := by
        intro z' w hw hw8 he
        have q505 := he.1.1
        have hr0 : z'.X 0 = 0 := (he.2.2.1 0 (by decide)).trans ((hX2 0 (by decide)).trans rfl)
        refine b_141_136 _ _ _ (by first | assumption | (exact mL_get (by decide)) | (rw [mL_len]; decide) | (simp only [mL_set]; exact mL_get (by decide)) | (simp only [mL_set, mL_len]; decide) | (exact va_eq) | (exact (va_ne (by omega)).trans (by assumption)) | (exact (va_ne (by omega)).trans va_eq) | (exact (va_ne (by omega)).trans ((va_ne (by omega)).trans (by assumption))) | (exact (va_ne (by omega)).trans ((va_ne (by omega)).trans ((va_ne (by omega)).trans (by assumption)))) | rfl | (exact Or.inl rfl) | (exact Or.inr rfl) | omega | (exact Nat.le_of_ble_eq_true rfl) | decide | (exact ⟨by decide, rfl, by decide⟩)) (by first | assumption | (exact mL_get (by decide)) | (rw [mL_len]; decide) | (simp only [mL_set]; exact mL_get (by decide)) | (simp only [mL_set, mL_len]; decide) | (exact va_eq) | (exact (va_ne (by omega)).trans (by assumption)) | (exact (va_ne (by omega)).trans va_eq) | (exact (va_ne (by omega)).trans ((va_ne (by omega)).trans (by assumption))) | (exact (va_ne (by omega)).trans ((va_ne (by omega)).trans ((va_ne (by omega)).trans (by assumption)))) | rfl | (exact Or.inl rfl) | (exact Or.inr rfl) | omega | (exact Nat.le_of_ble_eq_true rfl) | decide | (exact ⟨by decide, rfl, by decide⟩)) (by first | assumption | (exact mL_get (by decide)) | (rw [mL_len]; decide) | (simp only [mL_set]; exact mL_get (by decide)) | (simp only [mL_set, mL_len]; decide) | (exact va_eq) | (exact (va_ne (by omega)).trans (by assumption)) | (exact (va_ne (by omega)).trans va_eq) | (exact (va_ne (by omega)).trans ((va_ne (by omega)).trans (by assumption))) | (exact (va_ne (by omega)).trans ((va_ne (by omega)).trans ((va_ne (by omega)).trans (by assumption)))) | rfl | (exact Or.inl rfl) | (exact Or.inr rfl) | omega | (exact Nat.le_of_ble_eq_true rfl) | decide | (exact ⟨by decide, rfl, by decide⟩)) ?_ ?_
        · intro h
          have h : z'.X 3 < 0 := h
          rw [he.2.1] at h
          exact absurd h (of_nn (by omega))
        · intro _
          refine b_141_144 _ _ _ ?_
          refine b_141_149 _ _ _ (by first | assumption | (exact mL_get (by decide)) | (rw [mL_len]; decide) | (simp only [mL_set]; exact mL_get (by decide)) | (simp only [mL_set, mL_len]; decide) | (exact va_eq) | (exact (va_ne (by omega)).trans (by assumption)) | (exact (va_ne (by omega)).trans va_eq) | (exact (va_ne (by omega)).trans ((va_ne (by omega)).trans (by assumption))) | (exact (va_ne (by omega)).trans ((va_ne (by omega)).trans ((va_ne (by omega)).trans (by assumption)))) | rfl | (exact Or.inl rfl) | (exact Or.inr rfl) | omega | (exact Nat.le_of_ble_eq_true rfl) | decide | (exact ⟨by decide, rfl, by decide⟩)) (by first | assumption | (exact mL_get (by decide)) | (rw [mL_len]; decide) | (simp only [mL_set]; exact mL_get (by decide)) | (simp only [mL_set, mL_len]; decide) | (exact va_eq) | (exact (va_ne (by omega)).trans (by assumption)) | (exact (va_ne (by omega)).trans va_eq) | (exact (va_ne (by omega)).trans ((va_ne (by omega)).trans (by assumption))) | (exact (va_ne (by omega)).trans ((va_ne (by omega)).trans ((va_ne (by omega)).trans (by assumption)))) | rfl | (exact Or.inl rfl) | (exact Or.inr rfl) | omega | (exact Nat.le_of_ble_eq_true rfl) | decide | (exact ⟨by decide, rfl, by decide⟩)) ?_
          refine s_fails1 he.1.1 (by omega) ((mL_get (by decide)).trans (congrArg (fun v => some (Value.int v)) hr0)) (by decide) ?_
          refine b_141_153 _ _ _ ?_ ?_
          · intro h
            exact absurd h (by decide)
          · intro _
            refine b_141_156 _ _ _ ?_
            have hBz := he.1.x (k := 0) (v := 2) rfl
            refine K2 L w (_, va_up z'.X 0 2, z'.Y, z'.I, z'.J) rfl hL hLf hw ⟨hBz, (show va_up z'.X 0 2 3 = _ from (va_ne (by decide)).trans he.2.1), ⟨fun j hj => ?_, he.2.2.2.1, he.2.2.2.2.1, he.2.2.2.2.2.1, fun q hq => ?_⟩⟩
            · show va_up z'.X 0 2 j = va_up (mr_X1 X (Int32.ofNat L)) 0 2 j
              by_cases ej : j = 0
              · rw [ej, va_eq, va_eq]
              · rw [va_ne ej, va_ne ej]
                exact (he.2.2.1 j hj).trans (hX2 j (by omega))
            · show va_up z'.f 505 _ q = f q
              rw [va_ne (by unfold mr_far at hq; omega)]
              exact (he.2.2.2.2.2.2 q hq).trans (hf2 q hq)
      have q505 := hB2.1
      rcases h32 with ⟨h3, hno⟩ | ⟨w, hw, h3, hb, hno⟩
      · refine b_141_125 _ _ _ (by first | assumption | (exact mL_get (by decide)) | (rw [mL_len]; decide) | (simp only [mL_set]; exact mL_get (by decide)) | (simp only [mL_set, mL_len]; decide) | (exact va_eq) | (exact (va_ne (by omega)).trans (by assumption)) | (exact (va_ne (by omega)).trans va_eq) | (exact (va_ne (by omega)).trans ((va_ne (by omega)).trans (by assumption))) | (exact (va_ne (by omega)).trans ((va_ne (by omega)).trans ((va_ne (by omega)).trans (by assumption)))) | rfl | (exact Or.inl rfl) | (exact Or.inr rfl) | omega | (exact Nat.le_of_ble_eq_true rfl) | decide | (exact ⟨by decide, rfl, by decide⟩)) (by first | assumption | (exact mL_get (by decide)) | (rw [mL_len]; decide) | (simp only [mL_set]; exact mL_get (by decide)) | (simp only [mL_set, mL_len]; decide) | (exact va_eq) | (exact (va_ne (by omega)).trans (by assumption)) | (exact (va_ne (by omega)).trans va_eq) | (exact (va_ne (by omega)).trans ((va_ne (by omega)).trans (by assumption))) | (exact (va_ne (by omega)).trans ((va_ne (by omega)).trans ((va_ne (by omega)).trans (by assumption)))) | rfl | (exact Or.inl rfl) | (exact Or.inr rfl) | omega | (exact Nat.le_of_ble_eq_true rfl) | decide | (exact ⟨by decide, rfl, by decide⟩)) (by first | assumption | (exact mL_get (by decide)) | (rw [mL_len]; decide) | (simp only [mL_set]; exact mL_get (by decide)) | (simp only [mL_set, mL_len]; decide) | (exact va_eq) | (exact (va_ne (by omega)).trans (by assumption)) | (exact (va_ne (by omega)).trans va_eq) | (exact (va_ne (by omega)).trans ((va_ne (by omega)).trans (by assumption))) | (exact (va_ne (by omega)).trans ((va_ne (by omega)).trans ((va_ne (by omega)).trans (by assumption)))) | rfl | (exact Or.inl rfl) | (exact Or.inr rfl) | omega | (exact Nat.le_of_ble_eq_true rfl) | decide | (exact ⟨by decide, rfl, by decide⟩)) ?_ ?_
        · intro h
          exact absurd h (by rw [h3]; decide)
        · intro _
          refine b_141_132 _ _ _ (by first | assumption | (exact mL_get (by decide)) | (rw [mL_len]; decide) | (simp only [mL_set]; exact mL_get (by decide)) | (simp only [mL_set, mL_len]; decide) | (exact va_eq) | (exact (va_ne (by omega)).trans (by assumption)) | (exact (va_ne (by omega)).trans va_eq) | (exact (va_ne (by omega)).trans ((va_ne (by omega)).trans (by assumption))) | (exact (va_ne (by omega)).trans ((va_ne (by omega)).trans ((va_ne (by omega)).trans (by assumption)))) | rfl | (exact Or.inl rfl) | (exact Or.inr rfl) | omega | (exact Nat.le_of_ble_eq_true rfl) | decide | (exact ⟨by decide, rfl, by decide⟩)) (by first | assumption | (exact mL_get (by decide)) | (rw [mL_len]; decide) | (simp only [mL_set]; exact mL_get (by decide)) | (simp only [mL_set, mL_len]; decide) | (exact va_eq) | (exact (va_ne (by omega)).trans (by assumption)) | (exact (va_ne (by omega)).trans va_eq) | (exact (va_ne (by omega)).trans ((va_ne (by omega)).trans (by assumption))) | (exact (va_ne (by omega)).trans ((va_ne (by omega)).trans ((va_ne (by omega)).trans (by assumption)))) | rfl | (exact Or.inl rfl) | (exact Or.inr rfl) | omega | (exact Nat.le_of_ble_eq_true rfl) | decide | (exact ⟨by decide, rfl, by decide⟩)) ?_
          have hK2 := hK.to (f' := f2) (fun q hq => hf2 q (by unfold mr_far; omega))
          refine sq_read (z := (f2, X2, Y, va_up I 507 (rG (I 506) (I 507) L), J)) (e := e + 1) (g := rG (I 506) (I 507) L) (L := L) hn hB2 hK2 (show va_up I 507 (rG (I 506) (I 507) L) 507 = _ from va_eq) hL ((hX2 2 (by decide)).trans rfl) h3 (fun z3 σ hrd hz3 hrf3 hr3 hm3 => ?_) (fun z3 w hrd he => fail z3 w (Or.inr ⟨hno, hrd⟩) ?_ he)
          · have q505 := hz3.1.1
            have hr0 : z3.X 0 = 0 := (hrf3.1 0 (by decide)).trans ((hX2 0 (by decide)).trans rfl)
            have h33 : z3.X 3 = -1 := hz3.2.2.2.1
            refine b_141_136 _ _ _ (by first | assumption | (exact mL_get (by decide)) | (rw [mL_len]; decide) | (simp only [mL_set]; exact mL_get (by decide)) | (simp only [mL_set, mL_len]; decide) | (exact va_eq) | (exact (va_ne (by omega)).trans (by assumption)) | (exact (va_ne (by omega)).trans va_eq) | (exact (va_ne (by omega)).trans ((va_ne (by omega)).trans (by assumption))) | (exact (va_ne (by omega)).trans ((va_ne (by omega)).trans ((va_ne (by omega)).trans (by assumption)))) | rfl | (exact Or.inl rfl) | (exact Or.inr rfl) | omega | (exact Nat.le_of_ble_eq_true rfl) | decide | (exact ⟨by decide, rfl, by decide⟩)) (by first | assumption | (exact mL_get (by decide)) | (rw [mL_len]; decide) | (simp only [mL_set]; exact mL_get (by decide)) | (simp only [mL_set, mL_len]; decide) | (exact va_eq) | (exact (va_ne (by omega)).trans (by assumption)) | (exact (va_ne (by omega)).trans va_eq) | (exact (va_ne (by omega)).trans ((va_ne (by omega)).trans (by assumption))) | (exact (va_ne (by omega)).trans ((va_ne (by omega)).trans ((va_ne (by omega)).trans (by assumption)))) | rfl | (exact Or.inl rfl) | (exact Or.inr rfl) | omega | (exact Nat.le_of_ble_eq_true rfl) | decide | (exact ⟨by decide, rfl, by decide⟩)) (by first | assumption | (exact mL_get (by decide)) | (rw [mL_len]; decide) | (simp only [mL_set]; exact mL_get (by decide)) | (simp only [mL_set, mL_len]; decide) | (exact va_eq) | (exact (va_ne (by omega)).trans (by assumption)) | (exact (va_ne (by omega)).trans va_eq) | (exact (va_ne (by omega)).trans ((va_ne (by omega)).trans (by assumption))) | (exact (va_ne (by omega)).trans ((va_ne (by omega)).trans ((va_ne (by omega)).trans (by assumption)))) | rfl | (exact Or.inl rfl) | (exact Or.inr rfl) | omega | (exact Nat.le_of_ble_eq_true rfl) | decide | (exact ⟨by decide, rfl, by decide⟩)) ?_ ?_
            · intro _
              refine b_141_148 _ _ _ ?_
              refine b_141_149 _ _ _ (by first | assumption | (exact mL_get (by decide)) | (rw [mL_len]; decide) | (simp only [mL_set]; exact mL_get (by decide)) | (simp only [mL_set, mL_len]; decide) | (exact va_eq) | (exact (va_ne (by omega)).trans (by assumption)) | (exact (va_ne (by omega)).trans va_eq) | (exact (va_ne (by omega)).trans ((va_ne (by omega)).trans (by assumption))) | (exact (va_ne (by omega)).trans ((va_ne (by omega)).trans ((va_ne (by omega)).trans (by assumption)))) | rfl | (exact Or.inl rfl) | (exact Or.inr rfl) | omega | (exact Nat.le_of_ble_eq_true rfl) | decide | (exact ⟨by decide, rfl, by decide⟩)) (by first | assumption | (exact mL_get (by decide)) | (rw [mL_len]; decide) | (simp only [mL_set]; exact mL_get (by decide)) | (simp only [mL_set, mL_len]; decide) | (exact va_eq) | (exact (va_ne (by omega)).trans (by assumption)) | (exact (va_ne (by omega)).trans va_eq) | (exact (va_ne (by omega)).trans ((va_ne (by omega)).trans (by assumption))) | (exact (va_ne (by omega)).trans ((va_ne (by omega)).trans ((va_ne (by omega)).trans (by assumption)))) | rfl | (exact Or.inl rfl) | (exact Or.inr rfl) | omega | (exact Nat.le_of_ble_eq_true rfl) | decide | (exact ⟨by decide, rfl, by decide⟩)) ?_
              have e0 : mr_S z3.X z3.Y s 0 = .int 0 := congrArg Value.int hr0
              refine s_fails0 hz3.1.1 (by omega) ((mL_get (by decide)).trans (congrArg some e0)) ?_
              refine b_141_153 _ _ _ ?_ ?_
              · intro _
                have hB4 := hz3.1.x (k := 4) (v := 0) rfl
                have t4 := hB4.1
                have hS3 : mr_Sv z3.f 531 ev := hS.to (fun q h1 h2 => (hrf3.2.2.2.2 q (by unfold mr_far; omega)).trans (hf2 q (by unfold mr_far; omega)))
                have hS4 : mr_Sv (va_up z3.f 505 (.inr (12, (mL 88 (mr_S z3.X z3.Y s)).set 4 (.int 0)))) 531 ev := hS3.to (fun q h1 h2 => va_ne (by omega))
                have qn := hS4.1
                refine b_141_158 _ _ _ (by first | assumption | (exact mL_get (by decide)) | (rw [mL_len]; decide) | (simp only [mL_set]; exact mL_get (by decide)) | (simp only [mL_set, mL_len]; decide) | (exact va_eq) | (exact (va_ne (by omega)).trans (by assumption)) | (exact (va_ne (by omega)).trans va_eq) | (exact (va_ne (by omega)).trans ((va_ne (by omega)).trans (by assumption))) | (exact (va_ne (by omega)).trans ((va_ne (by omega)).trans ((va_ne (by omega)).trans (by assumption)))) | rfl | (exact Or.inl rfl) | (exact Or.inr rfl) | omega | (exact Nat.le_of_ble_eq_true rfl) | decide | (exact ⟨by decide, rfl, by decide⟩)) (by first | assumption | (exact mL_get (by decide)) | (rw [mL_len]; decide) | (simp only [mL_set]; exact mL_get (by decide)) | (simp only [mL_set, mL_len]; decide) | (exact va_eq) | (exact (va_ne (by omega)).trans (by assumption)) | (exact (va_ne (by omega)).trans va_eq) | (exact (va_ne (by omega)).trans ((va_ne (by omega)).trans (by assumption))) | (exact (va_ne (by omega)).trans ((va_ne (by omega)).trans ((va_ne (by omega)).trans (by assumption)))) | rfl | (exact Or.inl rfl) | (exact Or.inr rfl) | omega | (exact Nat.le_of_ble_eq_true rfl) | decide | (exact ⟨by decide, rfl, by decide⟩)) (by first | assumption | (exact mL_get (by decide)) | (rw [mL_len]; decide) | (simp only [mL_set]; exact mL_get (by decide)) | (simp only [mL_set, mL_len]; decide) | (exact va_eq) | (exact (va_ne (by omega)).trans (by assumption)) | (exact (va_ne (by omega)).trans va_eq) | (exact (va_ne (by omega)).trans ((va_ne (by omega)).trans (by assumption))) | (exact (va_ne (by omega)).trans ((va_ne (by omega)).trans ((va_ne (by omega)).trans (by assumption)))) | rfl | (exact Or.inl rfl) | (exact Or.inr rfl) | omega | (exact Nat.le_of_ble_eq_true rfl) | decide | (exact ⟨by decide, rfl, by decide⟩)) (by first | assumption | (exact mL_get (by decide)) | (rw [mL_len]; decide) | (simp only [mL_set]; exact mL_get (by decide)) | (simp only [mL_set, mL_len]; decide) | (exact va_eq) | (exact (va_ne (by omega)).trans (by assumption)) | (exact (va_ne (by omega)).trans va_eq) | (exact (va_ne (by omega)).trans ((va_ne (by omega)).trans (by assumption))) | (exact (va_ne (by omega)).trans ((va_ne (by omega)).trans ((va_ne (by omega)).trans (by assumption)))) | rfl | (exact Or.inl rfl) | (exact Or.inr rfl) | omega | (exact Nat.le_of_ble_eq_true rfl) | decide | (exact ⟨by decide, rfl, by decide⟩)) (by first | assumption | (exact mL_get (by decide)) | (rw [mL_len]; decide) | (simp only [mL_set]; exact mL_get (by decide)) | (simp only [mL_set, mL_len]; decide) | (exact va_eq) | (exact (va_ne (by omega)).trans (by assumption)) | (exact (va_ne (by omega)).trans va_eq) | (exact (va_ne (by omega)).trans ((va_ne (by omega)).trans (by assumption))) | (exact (va_ne (by omega)).trans ((va_ne (by omega)).trans ((va_ne (by omega)).trans (by assumption)))) | rfl | (exact Or.inl rfl) | (exact Or.inr rfl) | omega | (exact Nat.le_of_ble_eq_true rfl) | decide | (exact ⟨by decide, rfl, by decide⟩)) (by first | assumption | (exact mL_get (by decide)) | (rw [mL_len]; decide) | (simp only [mL_set]; exact mL_get (by decide)) | (simp only [mL_set, mL_len]; decide) | (exact va_eq) | (exact (va_ne (by omega)).trans (by assumption)) | (exact (va_ne (by omega)).trans va_eq) | (exact (va_ne (by omega)).trans ((va_ne (by omega)).trans (by assumption))) | (exact (va_ne (by omega)).trans ((va_ne (by omega)).trans ((va_ne (by omega)).trans (by assumption)))) | rfl | (exact Or.inl rfl) | (exact Or.inr rfl) | omega | (exact Nat.le_of_ble_eq_true rfl) | decide | (exact ⟨by decide, rfl, by decide⟩)) (by first | assumption | (exact mL_get (by decide)) | (rw [mL_len]; decide) | (simp only [mL_set]; exact mL_get (by decide)) | (simp only [mL_set, mL_len]; decide) | (exact va_eq) | (exact (va_ne (by omega)).trans (by assumption)) | (exact (va_ne (by omega)).trans va_eq) | (exact (va_ne (by omega)).trans ((va_ne (by omega)).trans (by assumption))) | (exact (va_ne (by omega)).trans ((va_ne (by omega)).trans ((va_ne (by omega)).trans (by assumption)))) | rfl | (exact Or.inl rfl) | (exact Or.inr rfl) | omega | (exact Nat.le_of_ble_eq_true rfl) | decide | (exact ⟨by decide, rfl, by decide⟩)) (by first | assumption | (exact mL_get (by decide)) | (rw [mL_len]; decide) | (simp only [mL_set]; exact mL_get (by decide)) | (simp only [mL_set, mL_len]; decide) | (exact va_eq) | (exact (va_ne (by omega)).trans (by assumption)) | (exact (va_ne (by omega)).trans va_eq) | (exact (va_ne (by omega)).trans ((va_ne (by omega)).trans (by assumption))) | (exact (va_ne (by omega)).trans ((va_ne (by omega)).trans ((va_ne (by omega)).trans (by assumption)))) | rfl | (exact Or.inl rfl) | (exact Or.inr rfl) | omega | (exact Nat.le_of_ble_eq_true rfl) | decide | (exact ⟨by decide, rfl, by decide⟩)) ?_
                refine sv_begin (by omega) hS4 (fun f5 e5 hS5 h05 hf5 => ?_)
                have hB5 : mr_B f5 (va_up z3.X 4 0) z3.Y s z3.I z3.J := hB4.fr (fun q hq => hf5 q (by omega))
                have q505 := hB5.1
                refine b_141_170 _ _ _ (by first | assumption | (exact mL_get (by decide)) | (rw [mL_len]; decide) | (simp only [mL_set]; exact mL_get (by decide)) | (simp only [mL_set, mL_len]; decide) | (exact va_eq) | (exact (va_ne (by omega)).trans (by assumption)) | (exact (va_ne (by omega)).trans va_eq) | (exact (va_ne (by omega)).trans ((va_ne (by omega)).trans (by assumption))) | (exact (va_ne (by omega)).trans ((va_ne (by omega)).trans ((va_ne (by omega)).trans (by assumption)))) | rfl | (exact Or.inl rfl) | (exact Or.inr rfl) | omega | (exact Nat.le_of_ble_eq_true rfl) | decide | (exact ⟨by decide, rfl, by decide⟩)) (by first | assumption | (exact mL_get (by decide)) | (rw [mL_len]; decide) | (simp only [mL_set]; exact mL_get (by decide)) | (simp only [mL_set, mL_len]; decide) | (exact va_eq) | (exact (va_ne (by omega)).trans (by assumption)) | (exact (va_ne (by omega)).trans va_eq) | (exact (va_ne (by omega)).trans ((va_ne (by omega)).trans (by assumption))) | (exact (va_ne (by omega)).trans ((va_ne (by omega)).trans ((va_ne (by omega)).trans (by assumption)))) | rfl | (exact Or.inl rfl) | (exact Or.inr rfl) | omega | (exact Nat.le_of_ble_eq_true rfl) | decide | (exact ⟨by decide, rfl, by decide⟩)) (by first | assumption | (exact mL_get (by decide)) | (rw [mL_len]; decide) | (simp only [mL_set]; exact mL_get (by decide)) | (simp only [mL_set, mL_len]; decide) | (exact va_eq) | (exact (va_ne (by omega)).trans (by assumption)) | (exact (va_ne (by omega)).trans va_eq) | (exact (va_ne (by omega)).trans ((va_ne (by omega)).trans (by assumption))) | (exact (va_ne (by omega)).trans ((va_ne (by omega)).trans ((va_ne (by omega)).trans (by assumption)))) | rfl | (exact Or.inl rfl) | (exact Or.inr rfl) | omega | (exact Nat.le_of_ble_eq_true rfl) | decide | (exact ⟨by decide, rfl, by decide⟩)) ?_
                have h21 : va_up z3.X 4 0 21 = Int32.ofNat σ.n := (va_ne (by decide)).trans hz3.2.2.2.2.1.1
                show Q (.inl (some (.int (va_up z3.X 4 0 21)))) _
                rw [h21]
                have hKz := hz3.2.1.to (f' := f5) (fun q hq => (hf5 q (by omega)).trans (va_ne (by omega)))
                refine K3 L (f5, va_up z3.X 4 0, z3.Y, z3.I, z3.J) σ e5 rfl hL hLf hno hrd ⟨hB5, hKz, ?_⟩ (fun j hj => ?_) (show va_up z3.X 4 0 4 = 0 from va_eq) (fun j hj => hrf3.2.1 j hj) (fun q hq => ?_) hrf3.2.2.2.1 hr3 hm3 hS5 h05 (fun q hq => ?_)
                · obtain ⟨hT, h3', ⟨h21', hn8⟩, ⟨h22, hk1⟩, ⟨h23, hq, hbd⟩, ⟨h24, hcp, hP⟩, ⟨h25, hct, hTt⟩, ⟨h27, hcx, hN⟩, h26, hch, hH⟩ := hz3.2.2
                  obtain ⟨y1, y2, y3, y4, y5, y6, y7, y8⟩ := hT
                  have vx : ∀ j, ¬ j = 4 → va_up z3.X 4 0 j = z3.X j := fun j hj => va_ne hj
                  exact ⟨⟨y1, y2, (vx _ (by decide)).trans y3, (vx _ (by decide)).trans y4, (vx _ (by decide)).trans y5, (vx _ (by decide)).trans y6, y7, y8⟩, (vx _ (by decide)).trans h3', ⟨(vx _ (by decide)).trans h21', hn8⟩, ⟨(vx _ (by decide)).trans h22, hk1⟩, ⟨(vx _ (by decide)).trans h23, hq, hbd⟩, ⟨(vx _ (by decide)).trans h24, hcp, hP⟩, ⟨(vx _ (by decide)).trans h25, hct, hTt⟩, ⟨(vx _ (by decide)).trans h27, hcx, hN⟩, (vx _ (by decide)).trans h26, hch, hH⟩
                · exact (show va_up z3.X 4 0 j = z3.X j from va_ne (by omega)).trans ((hrf3.1 j (by omega)).trans (hX2 j (by omega)))
                · exact (hrf3.2.2.1 q (by omega)).trans (show va_up I 507 (rG (I 506) (I 507) L) q = I q from va_ne (by omega))
                · exact (hf5 q (by omega)).trans ((va_ne (by omega)).trans ((hrf3.2.2.2.2 q (by unfold mr_far; omega)).trans (hf2 q (by unfold mr_far; omega))))
              · intro h
                exact absurd rfl h
            · intro h
              exact absurd (by show z3.X 3 < 0; rw [h33]; decide) h
          · exact ms_read_le hL hrd
      · refine b_141_125 _ _ _ (by first | assumption | (exact mL_get (by decide)) | (rw [mL_len]; decide) | (simp only [mL_set]; exact mL_get (by decide)) | (simp only [mL_set, mL_len]; decide) | (exact va_eq) | (exact (va_ne (by omega)).trans (by assumption)) | (exact (va_ne (by omega)).trans va_eq) | (exact (va_ne (by omega)).trans ((va_ne (by omega)).trans (by assumption))) | (exact (va_ne (by omega)).trans ((va_ne (by omega)).trans ((va_ne (by omega)).trans (by assumption)))) | rfl | (exact Or.inl rfl) | (exact Or.inr rfl) | omega | (exact Nat.le_of_ble_eq_true rfl) | decide | (exact ⟨by decide, rfl, by decide⟩)) (by first | assumption | (exact mL_get (by decide)) | (rw [mL_len]; decide) | (simp only [mL_set]; exact mL_get (by decide)) | (simp only [mL_set, mL_len]; decide) | (exact va_eq) | (exact (va_ne (by omega)).trans (by assumption)) | (exact (va_ne (by omega)).trans va_eq) | (exact (va_ne (by omega)).trans ((va_ne (by omega)).trans (by assumption))) | (exact (va_ne (by omega)).trans ((va_ne (by omega)).trans ((va_ne (by omega)).trans (by assumption)))) | rfl | (exact Or.inl rfl) | (exact Or.inr rfl) | omega | (exact Nat.le_of_ble_eq_true rfl) | decide | (exact ⟨by decide, rfl, by decide⟩)) (by first | assumption | (exact mL_get (by decide)) | (rw [mL_len]; decide) | (simp only [mL_set]; exact mL_get (by decide)) | (simp only [mL_set, mL_len]; decide) | (exact va_eq) | (exact (va_ne (by omega)).trans (by assumption)) | (exact (va_ne (by omega)).trans va_eq) | (exact (va_ne (by omega)).trans ((va_ne (by omega)).trans (by assumption))) | (exact (va_ne (by omega)).trans ((va_ne (by omega)).trans ((va_ne (by omega)).trans (by assumption)))) | rfl | (exact Or.inl rfl) | (exact Or.inr rfl) | omega | (exact Nat.le_of_ble_eq_true rfl) | decide | (exact ⟨by decide, rfl, by decide⟩)) ?_ ?_
        · intro _
          exact fail (f2, X2, Y, va_up I 507 (rG (I 506) (I 507) L), J) w (Or.inl ⟨hw, hb, hno⟩) (by omega) ⟨hB2, h3, mr_rf.re⟩
        · intro h
          exact absurd (show (0 : Int32) ≤ X2 3 by rw [h3]; exact of_np (by omega)) h
    · intro h
      exact absurd rfl h
  refine b_141_0 _ _ _ (by first | assumption | (exact mL_get (by decide)) | (rw [mL_len]; decide) | (simp only [mL_set]; exact mL_get (by decide)) | (simp only [mL_set, mL_len]; decide) | (exact va_eq) | (exact (va_ne (by omega)).trans (by assumption)) | (exact (va_ne (by omega)).trans va_eq) | (exact (va_ne (by omega)).trans ((va_ne (by omega)).trans (by assumption))) | (exact (va_ne (by omega)).trans ((va_ne (by omega)).trans ((va_ne (by omega)).trans (by assumption)))) | rfl | (exact Or.inl rfl) | (exact Or.inr rfl) | omega | (exact Nat.le_of_ble_eq_true rfl) | decide | (exact ⟨by decide, rfl, by decide⟩)) (by first | assumption | (exact mL_get (by decide)) | (rw [mL_len]; decide) | (simp only [mL_set]; exact mL_get (by decide)) | (simp only [mL_set, mL_len]; decide) | (exact va_eq) | (exact (va_ne (by omega)).trans (by assumption)) | (exact (va_ne (by omega)).trans va_eq) | (exact (va_ne (by omega)).trans ((va_ne (by omega)).trans (by assumption))) | (exact (va_ne (by omega)).trans ((va_ne (by omega)).trans ((va_ne (by omega)).trans (by assumption)))) | rfl | (exact Or.inl rfl) | (exact Or.inr rfl) | omega | (exact Nat.le_of_ble_eq_true rfl) | decide | (exact ⟨by decide, rfl, by decide⟩)) (by first | assumption | (exact mL_get (by decide)) | (rw [mL_len]; decide) | (simp only [mL_set]; exact mL_get (by decide)) | (simp only [mL_set, mL_len]; decide) | (exact va_eq) | (exact (va_ne (by omega)).trans (by assumption)) | (exact (va_ne (by omega)).trans va_eq) | (exact (va_ne (by omega)).trans ((va_ne (by omega)).trans (by assumption))) | (exact (va_ne (by omega)).trans ((va_ne (by omega)).trans ((va_ne (by omega)).trans (by assumption)))) | rfl | (exact Or.inl rfl) | (exact Or.inr rfl) | omega | (exact Nat.le_of_ble_eq_true rfl) | decide | (exact ⟨by decide, rfl, by decide⟩)) ?_ ?_
  · intro z0
    refine mr_gen hC0 (f := f) (fun q hq => va_ne hq) (fun F hBF hF => ?_)
    exact bad (Or.inl z0) F hBF hF
  · intro z0
    refine mr_gen hC0 (f := f) (fun q hq => va_ne hq) (fun F hBF hF => ?_)
    have q505 := hBF.1
    refine b_141_10 _ _ _ ?_ ?_
    · intro z10
      exact bad (Or.inr (Or.inl z10)) F hBF hF
    · intro z10
      refine b_141_17 _ _ _ (by first | assumption | (exact mL_get (by decide)) | (rw [mL_len]; decide) | (simp only [mL_set]; exact mL_get (by decide)) | (simp only [mL_set, mL_len]; decide) | (exact va_eq) | (exact (va_ne (by omega)).trans (by assumption)) | (exact (va_ne (by omega)).trans va_eq) | (exact (va_ne (by omega)).trans ((va_ne (by omega)).trans (by assumption))) | (exact (va_ne (by omega)).trans ((va_ne (by omega)).trans ((va_ne (by omega)).trans (by assumption)))) | rfl | (exact Or.inl rfl) | (exact Or.inr rfl) | omega | (exact Nat.le_of_ble_eq_true rfl) | decide | (exact ⟨by decide, rfl, by decide⟩)) (by first | assumption | (exact mL_get (by decide)) | (rw [mL_len]; decide) | (simp only [mL_set]; exact mL_get (by decide)) | (simp only [mL_set, mL_len]; decide) | (exact va_eq) | (exact (va_ne (by omega)).trans (by assumption)) | (exact (va_ne (by omega)).trans va_eq) | (exact (va_ne (by omega)).trans ((va_ne (by omega)).trans (by assumption))) | (exact (va_ne (by omega)).trans ((va_ne (by omega)).trans ((va_ne (by omega)).trans (by assumption)))) | rfl | (exact Or.inl rfl) | (exact Or.inr rfl) | omega | (exact Nat.le_of_ble_eq_true rfl) | decide | (exact ⟨by decide, rfl, by decide⟩)) (by first | assumption | (exact mL_get (by decide)) | (rw [mL_len]; decide) | (simp only [mL_set]; exact mL_get (by decide)) | (simp only [mL_set, mL_len]; decide) | (exact va_eq) | (exact (va_ne (by omega)).trans (by assumption)) | (exact (va_ne (by omega)).trans va_eq) | (exact (va_ne (by omega)).trans ((va_ne (by omega)).trans (by assumption))) | (exact (va_ne (by omega)).trans ((va_ne (by omega)).trans ((va_ne (by omega)).trans (by assumption)))) | rfl | (exact Or.inl rfl) | (exact Or.inr rfl) | omega | (exact Nat.le_of_ble_eq_true rfl) | decide | (exact ⟨by decide, rfl, by decide⟩)) ?_ ?_
      · intro z17
        exact good z0 z10 z17 F hBF hF
      · intro z17
        exact bad (Or.inr (Or.inr z17)) F hBF hF
end
