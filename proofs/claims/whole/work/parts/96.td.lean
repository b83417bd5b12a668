/-! the second object's reading: next -/
def mr_nf (f f' : Nat → mi_C) (X X' : Nat → Int32) (Y Y' : Nat → Int64) : Prop := (∀ j, ¬ j = 3 → ¬ j = 8 → ¬ j = 9 → ¬ j = 10 → X' j = X j) ∧ (∀ j, ¬ j = 11 → Y' j = Y j) ∧ ∀ q, ¬ q = 505 → f' q = f q
section
variable {d n sl : Nat} {f : Nat → mi_C} {X : Nat → Int32} {Y : Nat → Int64} {s : Value} {I : Nat → Nat → Int32} {J : Nat → Nat → Int64} {Q : (Option Value ⊕ Nat) → mi_H → Prop} {g : Nat → Int32} {L : Nat}
theorem sp_next {p : Nat} (hn : 575 ≤ n) (hB : mr_B f X Y s I J) (hK : mr_KS n f) (hg : I 507 = g) (hL : L ≤ 8192) (h2 : X 2 = Int32.ofNat L) (h3 : ¬ 0 ≤ X 3) (hp : p ≤ L) (h10 : X 10 = Int32.ofNat p) (k1 : ∀ f' X' Y', ¬ (ms_nx g L p).k = 40 → mr_B f' X' Y' s I J → mr_KS n f' → mr_Tk X' Y' I g L (ms_nx g L p) → X' 3 = X 3 → mr_nf f f' X X' Y Y' → Q (.inl (some (.int 1))) (n, sl, f')) (k0 : ∀ f' X' Y', (ms_nx g L p).k = 40 → mr_B f' X' Y' s I J → X' 3 = Int32.ofNat (ms_nx g L p).a → mr_nf f f' X X' Y Y' → Q (.inl (some (.int 0))) (n, sl, f')) : mi_W (d + 1 + 1 + 1 + 1 + 1) 145 0 (mi_en 4 [.ref 505]) [] (n, sl, f) Q := by
  have q505 := hB.1
  have hsk := ms_sk_le (g := g) (L - p) p
  have hnx : ms_nx g L p = ms_tk g L (ms_sk g (L - p) p) := rfl
  rw [hnx] at k1 k0
  refine b_145_0 _ _ _ (by first | assumption | (exact mL_get (by decide)) | (rw [mL_len]; decide) | (simp only [mL_set]; exact mL_get (by decide)) | (simp only [mL_set, mL_len]; decide) | (exact va_eq) | (exact (va_ne (by omega)).trans (by assumption)) | (exact (va_ne (by omega)).trans va_eq) | (exact (va_ne (by omega)).trans ((va_ne (by omega)).trans (by assumption))) | (exact (va_ne (by omega)).trans ((va_ne (by omega)).trans ((va_ne (by omega)).trans (by assumption)))) | rfl | (exact Or.inl rfl) | (exact Or.inr rfl) | omega | (exact Nat.le_of_ble_eq_true rfl) | decide | (exact ⟨by decide, rfl, by decide⟩)) (by first | assumption | (exact mL_get (by decide)) | (rw [mL_len]; decide) | (simp only [mL_set]; exact mL_get (by decide)) | (simp only [mL_set, mL_len]; decide) | (exact va_eq) | (exact (va_ne (by omega)).trans (by assumption)) | (exact (va_ne (by omega)).trans va_eq) | (exact (va_ne (by omega)).trans ((va_ne (by omega)).trans (by assumption))) | (exact (va_ne (by omega)).trans ((va_ne (by omega)).trans ((va_ne (by omega)).trans (by assumption)))) | rfl | (exact Or.inl rfl) | (exact Or.inr rfl) | omega | (exact Nat.le_of_ble_eq_true rfl) | decide | (exact ⟨by decide, rfl, by decide⟩)) (by first | assumption | (exact mL_get (by decide)) | (rw [mL_len]; decide) | (simp only [mL_set]; exact mL_get (by decide)) | (simp only [mL_set, mL_len]; decide) | (exact va_eq) | (exact (va_ne (by omega)).trans (by assumption)) | (exact (va_ne (by omega)).trans va_eq) | (exact (va_ne (by omega)).trans ((va_ne (by omega)).trans (by assumption))) | (exact (va_ne (by omega)).trans ((va_ne (by omega)).trans ((va_ne (by omega)).trans (by assumption)))) | rfl | (exact Or.inl rfl) | (exact Or.inr rfl) | omega | (exact Nat.le_of_ble_eq_true rfl) | decide | (exact ⟨by decide, rfl, by decide⟩)) ?_
  rw [h10]
  refine sp_nx5 hn hB hg hL h2 (L - p) p (by omega) ?_
  generalize ms_sk g (L - p) p = k at k1 k0 hsk
  have hB9 := hB.x (k := 9) (v := Int32.ofNat k) rfl
  have q9 := hB9.1
  have hBa := hB9.x (k := 10) (v := Int32.ofNat k) rfl
  have qa := hBa.1
  have hkL : k ≤ L := by omega
  have hle := ms_tk_le (g := g) hkL
  have ha2 : va_up (va_up X 9 (Int32.ofNat k)) 10 (Int32.ofNat k) 2 = Int32.ofNat L := h2
  refine b_145_41 _ _ _ (by first | assumption | (exact mL_get (by decide)) | (rw [mL_len]; decide) | (simp only [mL_set]; exact mL_get (by decide)) | (simp only [mL_set, mL_len]; decide) | (exact va_eq) | (exact (va_ne (by omega)).trans (by assumption)) | (exact (va_ne (by omega)).trans va_eq) | (exact (va_ne (by omega)).trans ((va_ne (by omega)).trans (by assumption))) | (exact (va_ne (by omega)).trans ((va_ne (by omega)).trans ((va_ne (by omega)).trans (by assumption)))) | rfl | (exact Or.inl rfl) | (exact Or.inr rfl) | omega | (exact Nat.le_of_ble_eq_true rfl) | decide | (exact ⟨by decide, rfl, by decide⟩)) (by first | assumption | (exact mL_get (by decide)) | (rw [mL_len]; decide) | (simp only [mL_set]; exact mL_get (by decide)) | (simp only [mL_set, mL_len]; decide) | (exact va_eq) | (exact (va_ne (by omega)).trans (by assumption)) | (exact (va_ne (by omega)).trans va_eq) | (exact (va_ne (by omega)).trans ((va_ne (by omega)).trans (by assumption))) | (exact (va_ne (by omega)).trans ((va_ne (by omega)).trans ((va_ne (by omega)).trans (by assumption)))) | rfl | (exact Or.inl rfl) | (exact Or.inr rfl) | omega | (exact Nat.le_of_ble_eq_true rfl) | decide | (exact ⟨by decide, rfl, by decide⟩)) (by first | assumption | (exact mL_get (by decide)) | (rw [mL_len]; decide) | (simp only [mL_set]; exact mL_get (by decide)) | (simp only [mL_set, mL_len]; decide) | (exact va_eq) | (exact (va_ne (by omega)).trans (by assumption)) | (exact (va_ne (by omega)).trans va_eq) | (exact (va_ne (by omega)).trans ((va_ne (by omega)).trans (by assumption))) | (exact (va_ne (by omega)).trans ((va_ne (by omega)).trans ((va_ne (by omega)).trans (by assumption)))) | rfl | (exact Or.inl rfl) | (exact Or.inr rfl) | omega | (exact Nat.le_of_ble_eq_true rfl) | decide | (exact ⟨by decide, rfl, by decide⟩)) (by first | assumption | (exact mL_get (by decide)) | (rw [mL_len]; decide) | (simp only [mL_set]; exact mL_get (by decide)) | (simp only [mL_set, mL_len]; decide) | (exact va_eq) | (exact (va_ne (by omega)).trans (by assumption)) | (exact (va_ne (by omega)).trans va_eq) | (exact (va_ne (by omega)).trans ((va_ne (by omega)).trans (by assumption))) | (exact (va_ne (by omega)).trans ((va_ne (by omega)).trans ((va_ne (by omega)).trans (by assumption)))) | rfl | (exact Or.inl rfl) | (exact Or.inr rfl) | omega | (exact Nat.le_of_ble_eq_true rfl) | decide | (exact ⟨by decide, rfl, by decide⟩)) (by first | assumption | (exact mL_get (by decide)) | (rw [mL_len]; decide) | (simp only [mL_set]; exact mL_get (by decide)) | (simp only [mL_set, mL_len]; decide) | (exact va_eq) | (exact (va_ne (by omega)).trans (by assumption)) | (exact (va_ne (by omega)).trans va_eq) | (exact (va_ne (by omega)).trans ((va_ne (by omega)).trans (by assumption))) | (exact (va_ne (by omega)).trans ((va_ne (by omega)).trans ((va_ne (by omega)).trans (by assumption)))) | rfl | (exact Or.inl rfl) | (exact Or.inr rfl) | omega | (exact Nat.le_of_ble_eq_true rfl) | decide | (exact ⟨by decide, rfl, by decide⟩)) (by first | assumption | (exact mL_get (by decide)) | (rw [mL_len]; decide) | (simp only [mL_set]; exact mL_get (by decide)) | (simp only [mL_set, mL_len]; decide) | (exact va_eq) | (exact (va_ne (by omega)).trans (by assumption)) | (exact (va_ne (by omega)).trans va_eq) | (exact (va_ne (by omega)).trans ((va_ne (by omega)).trans (by assumption))) | (exact (va_ne (by omega)).trans ((va_ne (by omega)).trans ((va_ne (by omega)).trans (by assumption)))) | rfl | (exact Or.inl rfl) | (exact Or.inr rfl) | omega | (exact Nat.le_of_ble_eq_true rfl) | decide | (exact ⟨by decide, rfl, by decide⟩)) (by first | assumption | (exact mL_get (by decide)) | (rw [mL_len]; decide) | (simp only [mL_set]; exact mL_get (by decide)) | (simp only [mL_set, mL_len]; decide) | (exact va_eq) | (exact (va_ne (by omega)).trans (by assumption)) | (exact (va_ne (by omega)).trans va_eq) | (exact (va_ne (by omega)).trans ((va_ne (by omega)).trans (by assumption))) | (exact (va_ne (by omega)).trans ((va_ne (by omega)).trans ((va_ne (by omega)).trans (by assumption)))) | rfl | (exact Or.inl rfl) | (exact Or.inr rfl) | omega | (exact Nat.le_of_ble_eq_true rfl) | decide | (exact ⟨by decide, rfl, by decide⟩)) (by first | assumption | (exact mL_get (by decide)) | (rw [mL_len]; decide) | (simp only [mL_set]; exact mL_get (by decide)) | (simp only [mL_set, mL_len]; decide) | (exact va_eq) | (exact (va_ne (by omega)).trans (by assumption)) | (exact (va_ne (by omega)).trans va_eq) | (exact (va_ne (by omega)).trans ((va_ne (by omega)).trans (by assumption))) | (exact (va_ne (by omega)).trans ((va_ne (by omega)).trans ((va_ne (by omega)).trans (by assumption)))) | rfl | (exact Or.inl rfl) | (exact Or.inr rfl) | omega | (exact Nat.le_of_ble_eq_true rfl) | decide | (exact ⟨by decide, rfl, by decide⟩)) (by first | assumption | (exact mL_get (by decide)) | (rw [mL_len]; decide) | (simp only [mL_set]; exact mL_get (by decide)) | (simp only [mL_set, mL_len]; decide) | (exact va_eq) | (exact (va_ne (by omega)).trans (by assumption)) | (exact (va_ne (by omega)).trans va_eq) | (exact (va_ne (by omega)).trans ((va_ne (by omega)).trans (by assumption))) | (exact (va_ne (by omega)).trans ((va_ne (by omega)).trans ((va_ne (by omega)).trans (by assumption)))) | rfl | (exact Or.inl rfl) | (exact Or.inr rfl) | omega | (exact Nat.le_of_ble_eq_true rfl) | decide | (exact ⟨by decide, rfl, by decide⟩)) ?_ ?_
  · intro z
    have hne : ¬ k = L := by
      intro e
      refine z ?_
      show Int32.ofNat k = X 2
      rw [h2, e]
    refine b_145_66 _ _ _ (by first | assumption | (exact mL_get (by decide)) | (rw [mL_len]; decide) | (simp only [mL_set]; exact mL_get (by decide)) | (simp only [mL_set, mL_len]; decide) | (exact va_eq) | (exact (va_ne (by omega)).trans (by assumption)) | (exact (va_ne (by omega)).trans va_eq) | (exact (va_ne (by omega)).trans ((va_ne (by omega)).trans (by assumption))) | (exact (va_ne (by omega)).trans ((va_ne (by omega)).trans ((va_ne (by omega)).trans (by assumption)))) | rfl | (exact Or.inl rfl) | (exact Or.inr rfl) | omega | (exact Nat.le_of_ble_eq_true rfl) | decide | (exact ⟨by decide, rfl, by decide⟩)) (by first | assumption | (exact mL_get (by decide)) | (rw [mL_len]; decide) | (simp only [mL_set]; exact mL_get (by decide)) | (simp only [mL_set, mL_len]; decide) | (exact va_eq) | (exact (va_ne (by omega)).trans (by assumption)) | (exact (va_ne (by omega)).trans va_eq) | (exact (va_ne (by omega)).trans ((va_ne (by omega)).trans (by assumption))) | (exact (va_ne (by omega)).trans ((va_ne (by omega)).trans ((va_ne (by omega)).trans (by assumption)))) | rfl | (exact Or.inl rfl) | (exact Or.inr rfl) | omega | (exact Nat.le_of_ble_eq_true rfl) | decide | (exact ⟨by decide, rfl, by decide⟩)) ?_
    refine sp_cc hn hBa hg hL ha2 (by omega) ?_
    refine b_145_71 _ _ _ ?_
    refine sp_letter (fun hlt => ?_) (fun hlt => ?_)
    · refine b_145_74 _ _ _ ?_ ?_
      · intro z
        exact absurd z (by decide)
      · intro _
        have ht : ms_tk g L k = ⟨ms_ky g k (ms_wd g L 16 k) 24 0, k, ms_wd g L 16 k, 0⟩ := by
          unfold ms_tk
          rw [if_neg hne, if_pos hlt]
        have hwl := ms_wd_le (g := g) (L := L) 16 k hkL
        refine sp_nx77 hn hg hL 16 k _ _ hBa ha2 rfl rfl (Nat.le_refl _) hkL (by omega) (fun f1 X1 hB1 h10' hX1 hf1 => ?_)
        have q1 := hB1.1
        refine b_145_132 _ _ _ (by first | assumption | (exact mL_get (by decide)) | (rw [mL_len]; decide) | (simp only [mL_set]; exact mL_get (by decide)) | (simp only [mL_set, mL_len]; decide) | (exact va_eq) | (exact (va_ne (by omega)).trans (by assumption)) | (exact (va_ne (by omega)).trans va_eq) | (exact (va_ne (by omega)).trans ((va_ne (by omega)).trans (by assumption))) | (exact (va_ne (by omega)).trans ((va_ne (by omega)).trans ((va_ne (by omega)).trans (by assumption)))) | rfl | (exact Or.inl rfl) | (exact Or.inr rfl) | omega | (exact Nat.le_of_ble_eq_true rfl) | decide | (exact ⟨by decide, rfl, by decide⟩)) (by first | assumption | (exact mL_get (by decide)) | (rw [mL_len]; decide) | (simp only [mL_set]; exact mL_get (by decide)) | (simp only [mL_set, mL_len]; decide) | (exact va_eq) | (exact (va_ne (by omega)).trans (by assumption)) | (exact (va_ne (by omega)).trans va_eq) | (exact (va_ne (by omega)).trans ((va_ne (by omega)).trans (by assumption))) | (exact (va_ne (by omega)).trans ((va_ne (by omega)).trans ((va_ne (by omega)).trans (by assumption)))) | rfl | (exact Or.inl rfl) | (exact Or.inr rfl) | omega | (exact Nat.le_of_ble_eq_true rfl) | decide | (exact ⟨by decide, rfl, by decide⟩)) (by first | assumption | (exact mL_get (by decide)) | (rw [mL_len]; decide) | (simp only [mL_set]; exact mL_get (by decide)) | (simp only [mL_set, mL_len]; decide) | (exact va_eq) | (exact (va_ne (by omega)).trans (by assumption)) | (exact (va_ne (by omega)).trans va_eq) | (exact (va_ne (by omega)).trans ((va_ne (by omega)).trans (by assumption))) | (exact (va_ne (by omega)).trans ((va_ne (by omega)).trans ((va_ne (by omega)).trans (by assumption)))) | rfl | (exact Or.inl rfl) | (exact Or.inr rfl) | omega | (exact Nat.le_of_ble_eq_true rfl) | decide | (exact ⟨by decide, rfl, by decide⟩)) ?_
        refine sp_nx139 hn hg hwl.1 (by omega) 24 0 _ _ (hB1.x (k := 8) (v := 1) rfl) (hK.to (fun q hq => ?_)) ?_ h10' (by omega) (Or.inl ⟨rfl, fun j hj => absurd hj (Nat.not_lt_zero j)⟩) (fun f2 X2 hB2 h8 hX2 hf2 => ?_)
        · rw [va_ne (by omega), hf1 q (by omega), va_ne (by omega), va_ne (by omega)]
        · show X1 9 = _
          rw [hX1 9 (by decide)]
          rfl
        · have hff : ∀ q, ¬ q = 505 → f2 q = f q := fun q hq => by rw [hf2 q hq, va_ne hq, hf1 q hq, va_ne hq, va_ne hq]
          have hxx : ∀ j, ¬ j = 8 → ¬ j = 9 → ¬ j = 10 → X2 j = X j := fun j e8 e9 e10 => by rw [hX2 j e8, va_ne e8, hX1 j e10, va_ne e10, va_ne e9]
          refine k1 f2 X2 Y ?_ hB2 (hK.to (fun q hq => hff q (by omega))) ?_ (hxx 3 (by decide) (by decide) (by decide)) ⟨fun j e3 e8 e9 e10 => hxx j e8 e9 e10, fun _ _ => rfl, hff⟩
          · rw [ht]
            show ¬ ms_ky g k (ms_wd g L 16 k) 24 0 = 40
            rcases ms_ky_is (g := g) (a := k) (b := ms_wd g L 16 k) 24 0 with h | h <;> omega
          · refine ⟨hg, hL, (hxx 2 (by decide) (by decide) (by decide)).trans h2, ?_, ?_, ?_, ?_, k, hkL, rfl⟩
            · rw [ht]
              exact h8
            · rw [ht, hX2 9 (by decide), va_ne (by decide), hX1 9 (by decide)]
              rfl
            · rw [ht, hX2 10 (by decide), va_ne (by decide), h10']
              rfl
            · rw [ht]
              intro h
              have h : ms_ky g k (ms_wd g L 16 k) 24 0 = 37 := h
              rcases ms_ky_is (g := g) (a := k) (b := ms_wd g L 16 k) 24 0 with h' | h' <;> omega
    · refine b_145_74 _ _ _ ?_ ?_
      · intro _
        refine b_145_174 _ _ _ (by first | assumption | (exact mL_get (by decide)) | (rw [mL_len]; decide) | (simp only [mL_set]; exact mL_get (by decide)) | (simp only [mL_set, mL_len]; decide) | (exact va_eq) | (exact (va_ne (by omega)).trans (by assumption)) | (exact (va_ne (by omega)).trans va_eq) | (exact (va_ne (by omega)).trans ((va_ne (by omega)).trans (by assumption))) | (exact (va_ne (by omega)).trans ((va_ne (by omega)).trans ((va_ne (by omega)).trans (by assumption)))) | rfl | (exact Or.inl rfl) | (exact Or.inr rfl) | omega | (exact Nat.le_of_ble_eq_true rfl) | decide | (exact ⟨by decide, rfl, by decide⟩)) (by first | assumption | (exact mL_get (by decide)) | (rw [mL_len]; decide) | (simp only [mL_set]; exact mL_get (by decide)) | (simp only [mL_set, mL_len]; decide) | (exact va_eq) | (exact (va_ne (by omega)).trans (by assumption)) | (exact (va_ne (by omega)).trans va_eq) | (exact (va_ne (by omega)).trans ((va_ne (by omega)).trans (by assumption))) | (exact (va_ne (by omega)).trans ((va_ne (by omega)).trans ((va_ne (by omega)).trans (by assumption)))) | rfl | (exact Or.inl rfl) | (exact Or.inr rfl) | omega | (exact Nat.le_of_ble_eq_true rfl) | decide | (exact ⟨by decide, rfl, by decide⟩)) ?_
        refine sp_cc hn hBa hg hL ha2 (by omega) ?_
        -- the number, from 218 on
        have hnum : ∀ (m : Int32) (e : Nat) (o4 : Option Value), e ≤ L → (m = 0 ∧ e = k ∧ mr_dg (ms_c g L k) ∨ m = 1 ∧ e = k + 1 ∧ ¬ mr_dg (ms_c g L k) ∧ ms_c g L k = 45 ∧ mr_dg (ms_c g L (k + 1))) → mi_W (d + 1 + 1 + 1 + 1 + 1) 145 218 [some (.ref 505), some (.int (Int32.ofNat k)), some (.int m), o4] [] (n, sl, va_up (va_up f 505 (.inr (12, (mL 88 (mr_S X Y s)).set 9 (.int (Int32.ofNat k))))) 505 (.inr (12, (mL 88 (mr_S (va_up X 9 (Int32.ofNat k)) Y s)).set 10 (.int (Int32.ofNat k))))) Q := by
          intro m e o4 heL hm
          have hBb := hBa.x (k := 8) (v := 2) rfl
          have qb := hBb.1
          have hgo : ∀ o4, mi_W (d + 1 + 1 + 1 + 1 + 1) 145 235 [some (.ref 505), some (.int (Int32.ofNat k)), some (.int m), o4] [.int (Int32.ofNat e), .ref 505] (n, sl, va_up (va_up (va_up f 505 (.inr (12, (mL 88 (mr_S X Y s)).set 9 (.int (Int32.ofNat k))))) 505 (.inr (12, (mL 88 (mr_S (va_up X 9 (Int32.ofNat k)) Y s)).set 10 (.int (Int32.ofNat k))))) 505 (.inr (12, (mL 88 (mr_S (va_up (va_up X 9 (Int32.ofNat k)) 10 (Int32.ofNat k)) Y s)).set 8 (.int 2)))) Q := by
            intro o4
            have hBc := hBb.x (k := 10) (v := Int32.ofNat e) rfl
            have qc := hBc.1
            have hBd := hBc.y (k := 11) (v := 0) (Or.inl rfl)
            have qd := hBd.1
            refine b_145_235 _ _ _ (by first | assumption | (exact mL_get (by decide)) | (rw [mL_len]; decide) | (simp only [mL_set]; exact mL_get (by decide)) | (simp only [mL_set, mL_len]; decide) | (exact va_eq) | (exact (va_ne (by omega)).trans (by assumption)) | (exact (va_ne (by omega)).trans va_eq) | (exact (va_ne (by omega)).trans ((va_ne (by omega)).trans (by assumption))) | (exact (va_ne (by omega)).trans ((va_ne (by omega)).trans ((va_ne (by omega)).trans (by assumption)))) | rfl | (exact Or.inl rfl) | (exact Or.inr rfl) | omega | (exact Nat.le_of_ble_eq_true rfl) | decide | (exact ⟨by decide, rfl, by decide⟩)) (by first | assumption | (exact mL_get (by decide)) | (rw [mL_len]; decide) | (simp only [mL_set]; exact mL_get (by decide)) | (simp only [mL_set, mL_len]; decide) | (exact va_eq) | (exact (va_ne (by omega)).trans (by assumption)) | (exact (va_ne (by omega)).trans va_eq) | (exact (va_ne (by omega)).trans ((va_ne (by omega)).trans (by assumption))) | (exact (va_ne (by omega)).trans ((va_ne (by omega)).trans ((va_ne (by omega)).trans (by assumption)))) | rfl | (exact Or.inl rfl) | (exact Or.inr rfl) | omega | (exact Nat.le_of_ble_eq_true rfl) | decide | (exact ⟨by decide, rfl, by decide⟩)) (by first | assumption | (exact mL_get (by decide)) | (rw [mL_len]; decide) | (simp only [mL_set]; exact mL_get (by decide)) | (simp only [mL_set, mL_len]; decide) | (exact va_eq) | (exact (va_ne (by omega)).trans (by assumption)) | (exact (va_ne (by omega)).trans va_eq) | (exact (va_ne (by omega)).trans ((va_ne (by omega)).trans (by assumption))) | (exact (va_ne (by omega)).trans ((va_ne (by omega)).trans ((va_ne (by omega)).trans (by assumption)))) | rfl | (exact Or.inl rfl) | (exact Or.inr rfl) | omega | (exact Nat.le_of_ble_eq_true rfl) | decide | (exact ⟨by decide, rfl, by decide⟩)) (by first | assumption | (exact mL_get (by decide)) | (rw [mL_len]; decide) | (simp only [mL_set]; exact mL_get (by decide)) | (simp only [mL_set, mL_len]; decide) | (exact va_eq) | (exact (va_ne (by omega)).trans (by assumption)) | (exact (va_ne (by omega)).trans va_eq) | (exact (va_ne (by omega)).trans ((va_ne (by omega)).trans (by assumption))) | (exact (va_ne (by omega)).trans ((va_ne (by omega)).trans ((va_ne (by omega)).trans (by assumption)))) | rfl | (exact Or.inl rfl) | (exact Or.inr rfl) | omega | (exact Nat.le_of_ble_eq_true rfl) | decide | (exact ⟨by decide, rfl, by decide⟩)) (by first | assumption | (exact mL_get (by decide)) | (rw [mL_len]; decide) | (simp only [mL_set]; exact mL_get (by decide)) | (simp only [mL_set, mL_len]; decide) | (exact va_eq) | (exact (va_ne (by omega)).trans (by assumption)) | (exact (va_ne (by omega)).trans va_eq) | (exact (va_ne (by omega)).trans ((va_ne (by omega)).trans (by assumption))) | (exact (va_ne (by omega)).trans ((va_ne (by omega)).trans ((va_ne (by omega)).trans (by assumption)))) | rfl | (exact Or.inl rfl) | (exact Or.inr rfl) | omega | (exact Nat.le_of_ble_eq_true rfl) | decide | (exact ⟨by decide, rfl, by decide⟩)) (by first | assumption | (exact mL_get (by decide)) | (rw [mL_len]; decide) | (simp only [mL_set]; exact mL_get (by decide)) | (simp only [mL_set, mL_len]; decide) | (exact va_eq) | (exact (va_ne (by omega)).trans (by assumption)) | (exact (va_ne (by omega)).trans va_eq) | (exact (va_ne (by omega)).trans ((va_ne (by omega)).trans (by assumption))) | (exact (va_ne (by omega)).trans ((va_ne (by omega)).trans ((va_ne (by omega)).trans (by assumption)))) | rfl | (exact Or.inl rfl) | (exact Or.inr rfl) | omega | (exact Nat.le_of_ble_eq_true rfl) | decide | (exact ⟨by decide, rfl, by decide⟩)) ?_
            refine sp_nx245 hn hg hL 17 0 e 0 _ _ _ hBd h2 rfl rfl heL (by omega) (fun f1 X1 Y1 l4 hB1 h10' h11' hX1 hY1 hf1 => ?_)
            have q1 := hB1.1
            have hff : ∀ q, ¬ q = 505 → f1 q = f q := fun q hq => by rw [hf1 q hq, va_ne hq, va_ne hq, va_ne hq, va_ne hq, va_ne hq]
            have hxx : ∀ j, ¬ j = 8 → ¬ j = 9 → ¬ j = 10 → X1 j = X j := fun j e8 e9 e10 => by rw [hX1 j e10, va_ne e10, va_ne e8, va_ne e10, va_ne e9]
            have hyy : ∀ j, ¬ j = 11 → Y1 j = Y j := fun j e11 => by rw [hY1 j e11, va_ne e11]
            rcases hm with ⟨rfl, rfl, hdg⟩ | ⟨rfl, rfl, hdg, h45, hd2⟩
            · have ht : ms_tk g L e = ⟨37, e, (ms_nm g L 17 e 0).1, (ms_nm g L 17 e 0).2⟩ := by
                unfold ms_tk
                rw [if_neg hne, if_neg hlt, if_pos hdg]
              refine b_145_304 _ _ _ ?_ ?_
              · intro _
                refine b_145_317 _ _ _ ?_
                refine k1 f1 X1 Y1 (by rw [ht]; show ¬ 37 = 40; decide) hB1 (hK.to (fun q hq => hff q (by omega))) ?_ (hxx 3 (by decide) (by decide) (by decide)) ⟨fun j e3 e8 e9 e10 => hxx j e8 e9 e10, hyy, hff⟩
                refine ⟨hg, hL, (hxx 2 (by decide) (by decide) (by decide)).trans h2, ?_, ?_, ?_, ?_, e, hkL, rfl⟩
                · rw [ht, hX1 8 (by decide)]
                  rfl
                · rw [ht, hX1 9 (by decide)]
                  rfl
                · rw [ht, h10']
                  rfl
                · rw [ht]
                  intro _
                  exact h11'
              · intro z
                exact absurd rfl z
            · have ht : ms_tk g L k = ⟨37, k, (ms_nm g L 17 (k + 1) 0).1, -(ms_nm g L 17 (k + 1) 0).2⟩ := by
                unfold ms_tk
                rw [if_neg hne, if_neg hlt, if_neg hdg, if_pos ⟨h45, hd2⟩]
              refine b_145_304 _ _ _ ?_ ?_
              · intro z
                exact absurd z (by decide)
              · intro _
                refine b_145_308 _ _ _ (by first | assumption | (exact mL_get (by decide)) | (rw [mL_len]; decide) | (simp only [mL_set]; exact mL_get (by decide)) | (simp only [mL_set, mL_len]; decide) | (exact va_eq) | (exact (va_ne (by omega)).trans (by assumption)) | (exact (va_ne (by omega)).trans va_eq) | (exact (va_ne (by omega)).trans ((va_ne (by omega)).trans (by assumption))) | (exact (va_ne (by omega)).trans ((va_ne (by omega)).trans ((va_ne (by omega)).trans (by assumption)))) | rfl | (exact Or.inl rfl) | (exact Or.inr rfl) | omega | (exact Nat.le_of_ble_eq_true rfl) | decide | (exact ⟨by decide, rfl, by decide⟩)) (by first | assumption | (exact mL_get (by decide)) | (rw [mL_len]; decide) | (simp only [mL_set]; exact mL_get (by decide)) | (simp only [mL_set, mL_len]; decide) | (exact va_eq) | (exact (va_ne (by omega)).trans (by assumption)) | (exact (va_ne (by omega)).trans va_eq) | (exact (va_ne (by omega)).trans ((va_ne (by omega)).trans (by assumption))) | (exact (va_ne (by omega)).trans ((va_ne (by omega)).trans ((va_ne (by omega)).trans (by assumption)))) | rfl | (exact Or.inl rfl) | (exact Or.inr rfl) | omega | (exact Nat.le_of_ble_eq_true rfl) | decide | (exact ⟨by decide, rfl, by decide⟩)) (by first | assumption | (exact mL_get (by decide)) | (rw [mL_len]; decide) | (simp only [mL_set]; exact mL_get (by decide)) | (simp only [mL_set, mL_len]; decide) | (exact va_eq) | (exact (va_ne (by omega)).trans (by assumption)) | (exact (va_ne (by omega)).trans va_eq) | (exact (va_ne (by omega)).trans ((va_ne (by omega)).trans (by assumption))) | (exact (va_ne (by omega)).trans ((va_ne (by omega)).trans ((va_ne (by omega)).trans (by assumption)))) | rfl | (exact Or.inl rfl) | (exact Or.inr rfl) | omega | (exact Nat.le_of_ble_eq_true rfl) | decide | (exact ⟨by decide, rfl, by decide⟩)) (by first | assumption | (exact mL_get (by decide)) | (rw [mL_len]; decide) | (simp only [mL_set]; exact mL_get (by decide)) | (simp only [mL_set, mL_len]; decide) | (exact va_eq) | (exact (va_ne (by omega)).trans (by assumption)) | (exact (va_ne (by omega)).trans va_eq) | (exact (va_ne (by omega)).trans ((va_ne (by omega)).trans (by assumption))) | (exact (va_ne (by omega)).trans ((va_ne (by omega)).trans ((va_ne (by omega)).trans (by assumption)))) | rfl | (exact Or.inl rfl) | (exact Or.inr rfl) | omega | (exact Nat.le_of_ble_eq_true rfl) | decide | (exact ⟨by decide, rfl, by decide⟩)) (by first | assumption | (exact mL_get (by decide)) | (rw [mL_len]; decide) | (simp only [mL_set]; exact mL_get (by decide)) | (simp only [mL_set, mL_len]; decide) | (exact va_eq) | (exact (va_ne (by omega)).trans (by assumption)) | (exact (va_ne (by omega)).trans va_eq) | (exact (va_ne (by omega)).trans ((va_ne (by omega)).trans (by assumption))) | (exact (va_ne (by omega)).trans ((va_ne (by omega)).trans ((va_ne (by omega)).trans (by assumption)))) | rfl | (exact Or.inl rfl) | (exact Or.inr rfl) | omega | (exact Nat.le_of_ble_eq_true rfl) | decide | (exact ⟨by decide, rfl, by decide⟩)) (by first | assumption | (exact mL_get (by decide)) | (rw [mL_len]; decide) | (simp only [mL_set]; exact mL_get (by decide)) | (simp only [mL_set, mL_len]; decide) | (exact va_eq) | (exact (va_ne (by omega)).trans (by assumption)) | (exact (va_ne (by omega)).trans va_eq) | (exact (va_ne (by omega)).trans ((va_ne (by omega)).trans (by assumption))) | (exact (va_ne (by omega)).trans ((va_ne (by omega)).trans ((va_ne (by omega)).trans (by assumption)))) | rfl | (exact Or.inl rfl) | (exact Or.inr rfl) | omega | (exact Nat.le_of_ble_eq_true rfl) | decide | (exact ⟨by decide, rfl, by decide⟩)) ?_
                have hB2 := hB1.y (k := 11) (v := -(Y1 11)) (Or.inl rfl)
                refine b_145_317 _ _ _ ?_
                have hff2 : ∀ q, ¬ q = 505 → va_up f1 505 (.inr (12, (mL 88 (mr_S X1 Y1 s)).set 11 (.long (-(Y1 11))))) q = f q := fun q hq => (va_ne hq).trans (hff q hq)
                refine k1 _ _ _ (by rw [ht]; show ¬ 37 = 40; decide) hB2 (hK.to (fun q hq => hff2 q (by omega))) ?_ (hxx 3 (by decide) (by decide) (by decide)) ⟨fun j e3 e8 e9 e10 => hxx j e8 e9 e10, fun j e11 => (va_ne e11).trans (hyy j e11), hff2⟩
                refine ⟨hg, hL, (hxx 2 (by decide) (by decide) (by decide)).trans h2, ?_, ?_, ?_, ?_, k, hkL, rfl⟩
                · rw [ht, hX1 8 (by decide)]
                  rfl
                · rw [ht, hX1 9 (by decide)]
                  rfl
                · rw [ht, h10']
                  rfl
                · rw [ht]
                  intro _
                  rw [va_eq, h11']
                  rfl
          rcases hm with ⟨rfl, rfl, hdg⟩ | ⟨rfl, rfl, hdg, h45, hd2⟩
          · refine b_145_218 _ _ _ (by first | assumption | (exact mL_get (by decide)) | (rw [mL_len]; decide) | (simp only [mL_set]; exact mL_get (by decide)) | (simp only [mL_set, mL_len]; decide) | (exact va_eq) | (exact (va_ne (by omega)).trans (by assumption)) | (exact (va_ne (by omega)).trans va_eq) | (exact (va_ne (by omega)).trans ((va_ne (by omega)).trans (by assumption))) | (exact (va_ne (by omega)).trans ((va_ne (by omega)).trans ((va_ne (by omega)).trans (by assumption)))) | rfl | (exact Or.inl rfl) | (exact Or.inr rfl) | omega | (exact Nat.le_of_ble_eq_true rfl) | decide | (exact ⟨by decide, rfl, by decide⟩)) (by first | assumption | (exact mL_get (by decide)) | (rw [mL_len]; decide) | (simp only [mL_set]; exact mL_get (by decide)) | (simp only [mL_set, mL_len]; decide) | (exact va_eq) | (exact (va_ne (by omega)).trans (by assumption)) | (exact (va_ne (by omega)).trans va_eq) | (exact (va_ne (by omega)).trans ((va_ne (by omega)).trans (by assumption))) | (exact (va_ne (by omega)).trans ((va_ne (by omega)).trans ((va_ne (by omega)).trans (by assumption)))) | rfl | (exact Or.inl rfl) | (exact Or.inr rfl) | omega | (exact Nat.le_of_ble_eq_true rfl) | decide | (exact ⟨by decide, rfl, by decide⟩)) (by first | assumption | (exact mL_get (by decide)) | (rw [mL_len]; decide) | (simp only [mL_set]; exact mL_get (by decide)) | (simp only [mL_set, mL_len]; decide) | (exact va_eq) | (exact (va_ne (by omega)).trans (by assumption)) | (exact (va_ne (by omega)).trans va_eq) | (exact (va_ne (by omega)).trans ((va_ne (by omega)).trans (by assumption))) | (exact (va_ne (by omega)).trans ((va_ne (by omega)).trans ((va_ne (by omega)).trans (by assumption)))) | rfl | (exact Or.inl rfl) | (exact Or.inr rfl) | omega | (exact Nat.le_of_ble_eq_true rfl) | decide | (exact ⟨by decide, rfl, by decide⟩)) ?_ ?_
            · intro _
              refine b_145_234 _ _ _ ?_
              exact hgo _
            · intro z
              exact absurd rfl z
          · refine b_145_218 _ _ _ (by first | assumption | (exact mL_get (by decide)) | (rw [mL_len]; decide) | (simp only [mL_set]; exact mL_get (by decide)) | (simp only [mL_set, mL_len]; decide) | (exact va_eq) | (exact (va_ne (by omega)).trans (by assumption)) | (exact (va_ne (by omega)).trans va_eq) | (exact (va_ne (by omega)).trans ((va_ne (by omega)).trans (by assumption))) | (exact (va_ne (by omega)).trans ((va_ne (by omega)).trans ((va_ne (by omega)).trans (by assumption)))) | rfl | (exact Or.inl rfl) | (exact Or.inr rfl) | omega | (exact Nat.le_of_ble_eq_true rfl) | decide | (exact ⟨by decide, rfl, by decide⟩)) (by first | assumption | (exact mL_get (by decide)) | (rw [mL_len]; decide) | (simp only [mL_set]; exact mL_get (by decide)) | (simp only [mL_set, mL_len]; decide) | (exact va_eq) | (exact (va_ne (by omega)).trans (by assumption)) | (exact (va_ne (by omega)).trans va_eq) | (exact (va_ne (by omega)).trans ((va_ne (by omega)).trans (by assumption))) | (exact (va_ne (by omega)).trans ((va_ne (by omega)).trans ((va_ne (by omega)).trans (by assumption)))) | rfl | (exact Or.inl rfl) | (exact Or.inr rfl) | omega | (exact Nat.le_of_ble_eq_true rfl) | decide | (exact ⟨by decide, rfl, by decide⟩)) (by first | assumption | (exact mL_get (by decide)) | (rw [mL_len]; decide) | (simp only [mL_set]; exact mL_get (by decide)) | (simp only [mL_set, mL_len]; decide) | (exact va_eq) | (exact (va_ne (by omega)).trans (by assumption)) | (exact (va_ne (by omega)).trans va_eq) | (exact (va_ne (by omega)).trans ((va_ne (by omega)).trans (by assumption))) | (exact (va_ne (by omega)).trans ((va_ne (by omega)).trans ((va_ne (by omega)).trans (by assumption)))) | rfl | (exact Or.inl rfl) | (exact Or.inr rfl) | omega | (exact Nat.le_of_ble_eq_true rfl) | decide | (exact ⟨by decide, rfl, by decide⟩)) ?_ ?_
            · intro z
              exact absurd z (by decide)
            · intro _
              refine b_145_228 _ _ _ ?_
              rw [of_succ]
              exact hgo _
        -- the sign, from 319 on
        have hsgn : ∀ (m : Int32) (o4 : Option Value), (m = 0 ∧ ¬ ms_c g L k = 45 ∨ m = 1 ∧ ms_c g L k = 45) → ¬ mr_dg (ms_c g L k) → ¬ (ms_c g L k = 45 ∧ mr_dg (ms_c g L (k + 1))) → mi_W (d + 1 + 1 + 1 + 1 + 1) 145 319 [some (.ref 505), some (.int (Int32.ofNat k)), some (.int m), o4] [] (n, sl, va_up (va_up f 505 (.inr (12, (mL 88 (mr_S X Y s)).set 9 (.int (Int32.ofNat k))))) 505 (.inr (12, (mL 88 (mr_S (va_up X 9 (Int32.ofNat k)) Y s)).set 10 (.int (Int32.ofNat k))))) Q := by
          intro m o4 hm hdg hmd
          have hBb := hBa.x (k := 8) (v := 3) rfl
          have qb := hBb.1
          have ht : ms_tk g L k = ⟨ms_sg (ms_c g L k) (ms_c g L (k + 1)), k, if (ms_c g L k = 60 ∨ ms_c g L k = 62) ∧ ms_c g L (k + 1) = 61 then k + 2 else k + 1, 0⟩ := by
            unfold ms_tk
            rw [if_neg hne, if_neg hlt, if_neg hdg, if_neg hmd]
          -- from 361 on, with the length
          have hgo : ∀ w : Nat, (if (ms_c g L k = 60 ∨ ms_c g L k = 62) ∧ ms_c g L (k + 1) = 61 then k + 2 else k + 1) = k + w → mi_W (d + 1 + 1 + 1 + 1 + 1) 145 361 [some (.ref 505), some (.int (Int32.ofNat k)), some (.int m), some (.int (ms_c g L k))] [.int (Int32.ofNat w), .int (Int32.ofNat k), .ref 505] (n, sl, va_up (va_up (va_up f 505 (.inr (12, (mL 88 (mr_S X Y s)).set 9 (.int (Int32.ofNat k))))) 505 (.inr (12, (mL 88 (mr_S (va_up X 9 (Int32.ofNat k)) Y s)).set 10 (.int (Int32.ofNat k))))) 505 (.inr (12, (mL 88 (mr_S (va_up (va_up X 9 (Int32.ofNat k)) 10 (Int32.ofNat k)) Y s)).set 8 (.int 3)))) Q := by
            intro w hw
            rw [hw] at ht
            have hBc := hBb.x (k := 10) (v := Int32.ofNat k + Int32.ofNat w) rfl
            have qc := hBc.1
            have hff : ∀ q, ¬ q = 505 → va_up (va_up (va_up (va_up f 505 (.inr (12, (mL 88 (mr_S X Y s)).set 9 (.int (Int32.ofNat k))))) 505 (.inr (12, (mL 88 (mr_S (va_up X 9 (Int32.ofNat k)) Y s)).set 10 (.int (Int32.ofNat k))))) 505 (.inr (12, (mL 88 (mr_S (va_up (va_up X 9 (Int32.ofNat k)) 10 (Int32.ofNat k)) Y s)).set 8 (.int 3)))) 505 (.inr (12, (mL 88 (mr_S (va_up (va_up (va_up X 9 (Int32.ofNat k)) 10 (Int32.ofNat k)) 8 3) Y s)).set 10 (.int (Int32.ofNat k + Int32.ofNat w)))) q = f q := fun q hq => by rw [va_ne hq, va_ne hq, va_ne hq, va_ne hq]
            have hxx : ∀ j, ¬ j = 8 → ¬ j = 9 → ¬ j = 10 → va_up (va_up (va_up (va_up X 9 (Int32.ofNat k)) 10 (Int32.ofNat k)) 8 3) 10 (Int32.ofNat k + Int32.ofNat w) j = X j := fun j e8 e9 e10 => by rw [va_ne e10, va_ne e8, va_ne e10, va_ne e9]
            have hyes : ¬ ms_sg (ms_c g L k) (ms_c g L (k + 1)) = 40 → mi_W (d + 1 + 1 + 1 + 1 + 1) 145 437 [some (.ref 505), some (.int (Int32.ofNat k)), some (.int m), some (.int (ms_c g L k))] [] (n, sl, va_up (va_up (va_up (va_up f 505 (.inr (12, (mL 88 (mr_S X Y s)).set 9 (.int (Int32.ofNat k))))) 505 (.inr (12, (mL 88 (mr_S (va_up X 9 (Int32.ofNat k)) Y s)).set 10 (.int (Int32.ofNat k))))) 505 (.inr (12, (mL 88 (mr_S (va_up (va_up X 9 (Int32.ofNat k)) 10 (Int32.ofNat k)) Y s)).set 8 (.int 3)))) 505 (.inr (12, (mL 88 (mr_S (va_up (va_up (va_up X 9 (Int32.ofNat k)) 10 (Int32.ofNat k)) 8 3) Y s)).set 10 (.int (Int32.ofNat k + Int32.ofNat w))))) Q := by
              intro h40
              refine b_145_437 _ _ _ ?_
              refine b_145_442 _ _ _ (by first | assumption | (exact mL_get (by decide)) | (rw [mL_len]; decide) | (simp only [mL_set]; exact mL_get (by decide)) | (simp only [mL_set, mL_len]; decide) | (exact va_eq) | (exact (va_ne (by omega)).trans (by assumption)) | (exact (va_ne (by omega)).trans va_eq) | (exact (va_ne (by omega)).trans ((va_ne (by omega)).trans (by assumption))) | (exact (va_ne (by omega)).trans ((va_ne (by omega)).trans ((va_ne (by omega)).trans (by assumption)))) | rfl | (exact Or.inl rfl) | (exact Or.inr rfl) | omega | (exact Nat.le_of_ble_eq_true rfl) | decide | (exact ⟨by decide, rfl, by decide⟩)) ?_
              refine k1 _ _ _ (by rw [ht]; exact h40) hBc (hK.to (fun q hq => hff q (by omega))) ?_ (hxx 3 (by decide) (by decide) (by decide)) ⟨fun j e3 e8 e9 e10 => hxx j e8 e9 e10, fun _ _ => rfl, hff⟩
              refine ⟨hg, hL, h2, ?_, ?_, ?_, ?_, k, hkL, rfl⟩
              · rw [ht]
                exact ms_ct_sg.symm
              · rw [ht]
                rfl
              · rw [ht, va_eq, of_add']
                rfl
              · rw [ht]
                intro h
                exact absurd h ms_sg_r.2.2.1
            have h429 : ms_sg (ms_c g L k) (ms_c g L (k + 1)) = 40 → mi_W (d + 1 + 1 + 1 + 1 + 1) 145 429 [some (.ref 505), some (.int (Int32.ofNat k)), some (.int m), some (.int (ms_c g L k))] [] (n, sl, va_up (va_up (va_up (va_up f 505 (.inr (12, (mL 88 (mr_S X Y s)).set 9 (.int (Int32.ofNat k))))) 505 (.inr (12, (mL 88 (mr_S (va_up X 9 (Int32.ofNat k)) Y s)).set 10 (.int (Int32.ofNat k))))) 505 (.inr (12, (mL 88 (mr_S (va_up (va_up X 9 (Int32.ofNat k)) 10 (Int32.ofNat k)) Y s)).set 8 (.int 3)))) 505 (.inr (12, (mL 88 (mr_S (va_up (va_up (va_up X 9 (Int32.ofNat k)) 10 (Int32.ofNat k)) 8 3) Y s)).set 10 (.int (Int32.ofNat k + Int32.ofNat w))))) Q := by
              intro h40
              refine b_145_429 _ _ _ (by first | assumption | (exact mL_get (by decide)) | (rw [mL_len]; decide) | (simp only [mL_set]; exact mL_get (by decide)) | (simp only [mL_set, mL_len]; decide) | (exact va_eq) | (exact (va_ne (by omega)).trans (by assumption)) | (exact (va_ne (by omega)).trans va_eq) | (exact (va_ne (by omega)).trans ((va_ne (by omega)).trans (by assumption))) | (exact (va_ne (by omega)).trans ((va_ne (by omega)).trans ((va_ne (by omega)).trans (by assumption)))) | rfl | (exact Or.inl rfl) | (exact Or.inr rfl) | omega | (exact Nat.le_of_ble_eq_true rfl) | decide | (exact ⟨by decide, rfl, by decide⟩)) (by first | assumption | (exact mL_get (by decide)) | (rw [mL_len]; decide) | (simp only [mL_set]; exact mL_get (by decide)) | (simp only [mL_set, mL_len]; decide) | (exact va_eq) | (exact (va_ne (by omega)).trans (by assumption)) | (exact (va_ne (by omega)).trans va_eq) | (exact (va_ne (by omega)).trans ((va_ne (by omega)).trans (by assumption))) | (exact (va_ne (by omega)).trans ((va_ne (by omega)).trans ((va_ne (by omega)).trans (by assumption)))) | rfl | (exact Or.inl rfl) | (exact Or.inr rfl) | omega | (exact Nat.le_of_ble_eq_true rfl) | decide | (exact ⟨by decide, rfl, by decide⟩)) ?_
              refine sp_bad hn hBc (fun h => absurd h h3) (fun _ f1 hB1 hf1 => ?_)
              refine b_145_434 _ _ _ ?_ ?_
              · intro _
                refine b_145_441 _ _ _ ?_
                refine b_145_442 _ _ _ (by first | assumption | (exact mL_get (by decide)) | (rw [mL_len]; decide) | (simp only [mL_set]; exact mL_get (by decide)) | (simp only [mL_set, mL_len]; decide) | (exact va_eq) | (exact (va_ne (by omega)).trans (by assumption)) | (exact (va_ne (by omega)).trans va_eq) | (exact (va_ne (by omega)).trans ((va_ne (by omega)).trans (by assumption))) | (exact (va_ne (by omega)).trans ((va_ne (by omega)).trans ((va_ne (by omega)).trans (by assumption)))) | rfl | (exact Or.inl rfl) | (exact Or.inr rfl) | omega | (exact Nat.le_of_ble_eq_true rfl) | decide | (exact ⟨by decide, rfl, by decide⟩)) ?_
                refine k0 f1 _ _ (by rw [ht]; exact h40) hB1 (by rw [ht]; rfl) ⟨fun j e3 e8 e9 e10 => (va_ne e3).trans (hxx j e8 e9 e10), fun _ _ => rfl, fun q hq => (hf1 q hq).trans (hff q hq)⟩
              · intro z
                exact absurd rfl z
            refine b_145_361 _ _ _ (by first | assumption | (exact mL_get (by decide)) | (rw [mL_len]; decide) | (simp only [mL_set]; exact mL_get (by decide)) | (simp only [mL_set, mL_len]; decide) | (exact va_eq) | (exact (va_ne (by omega)).trans (by assumption)) | (exact (va_ne (by omega)).trans va_eq) | (exact (va_ne (by omega)).trans ((va_ne (by omega)).trans (by assumption))) | (exact (va_ne (by omega)).trans ((va_ne (by omega)).trans ((va_ne (by omega)).trans (by assumption)))) | rfl | (exact Or.inl rfl) | (exact Or.inr rfl) | omega | (exact Nat.le_of_ble_eq_true rfl) | decide | (exact ⟨by decide, rfl, by decide⟩)) (by first | assumption | (exact mL_get (by decide)) | (rw [mL_len]; decide) | (simp only [mL_set]; exact mL_get (by decide)) | (simp only [mL_set, mL_len]; decide) | (exact va_eq) | (exact (va_ne (by omega)).trans (by assumption)) | (exact (va_ne (by omega)).trans va_eq) | (exact (va_ne (by omega)).trans ((va_ne (by omega)).trans (by assumption))) | (exact (va_ne (by omega)).trans ((va_ne (by omega)).trans ((va_ne (by omega)).trans (by assumption)))) | rfl | (exact Or.inl rfl) | (exact Or.inr rfl) | omega | (exact Nat.le_of_ble_eq_true rfl) | decide | (exact ⟨by decide, rfl, by decide⟩)) (by first | assumption | (exact mL_get (by decide)) | (rw [mL_len]; decide) | (simp only [mL_set]; exact mL_get (by decide)) | (simp only [mL_set, mL_len]; decide) | (exact va_eq) | (exact (va_ne (by omega)).trans (by assumption)) | (exact (va_ne (by omega)).trans va_eq) | (exact (va_ne (by omega)).trans ((va_ne (by omega)).trans (by assumption))) | (exact (va_ne (by omega)).trans ((va_ne (by omega)).trans ((va_ne (by omega)).trans (by assumption)))) | rfl | (exact Or.inl rfl) | (exact Or.inr rfl) | omega | (exact Nat.le_of_ble_eq_true rfl) | decide | (exact ⟨by decide, rfl, by decide⟩)) ?_ ?_
            · intro z1
              exact hyes (ms_sg_40 40 (by decide) z1)
            intro y1
            refine b_145_371 _ _ _ ?_ ?_
            · intro z1
              exact hyes (ms_sg_40 41 (by decide) z1)
            intro y2
            refine b_145_377 _ _ _ ?_ ?_
            · intro z1
              exact hyes (ms_sg_40 91 (by decide) z1)
            intro y3
            refine b_145_383 _ _ _ ?_ ?_
            · intro z1
              exact hyes (ms_sg_40 93 (by decide) z1)
            intro y4
            refine b_145_389 _ _ _ ?_ ?_
            · intro z1
              exact hyes (ms_sg_40 43 (by decide) z1)
            intro y5
            refine b_145_395 _ _ _ ?_ ?_
            · intro z1
              rcases hm with ⟨hm, _⟩ | ⟨_, hm⟩
              · exact absurd hm z1
              · exact hyes (ms_sg_40 45 (by decide) hm)
            intro y6
            have y6' : ¬ ms_c g L k = 45 := by
              rcases hm with ⟨_, hm⟩ | ⟨hm, _⟩
              · exact hm
              · rw [hm] at y6
                exact absurd (by decide) y6
            refine b_145_399 _ _ _ ?_ ?_
            · intro z1
              exact hyes (ms_sg_40 42 (by decide) z1)
            intro y7
            refine b_145_405 _ _ _ ?_ ?_
            · intro z1
              exact hyes (ms_sg_40 47 (by decide) z1)
            intro y8
            refine b_145_411 _ _ _ ?_ ?_
            · intro z1
              exact hyes (ms_sg_40 60 (by decide) z1)
            intro y9
            refine b_145_417 _ _ _ ?_ ?_
            · intro z1
              exact hyes (ms_sg_40 62 (by decide) z1)
            intro y10
            refine b_145_423 _ _ _ ?_ ?_
            · intro z1
              exact hyes (ms_sg_40 61 (by decide) z1)
            intro y11
            refine h429 ?_
            unfold ms_sg
            rw [if_neg y1, if_neg y2, if_neg y3, if_neg y4, if_neg y5, if_neg y6', if_neg y7, if_neg y8, if_neg y9, if_neg y10, if_neg y11]
          have h344 : (ms_c g L k = 60 ∨ ms_c g L k = 62) → mi_W (d + 1 + 1 + 1 + 1 + 1) 145 344 [some (.ref 505), some (.int (Int32.ofNat k)), some (.int m), some (.int (ms_c g L k))] [.int (Int32.ofNat k), .ref 505] (n, sl, va_up (va_up (va_up f 505 (.inr (12, (mL 88 (mr_S X Y s)).set 9 (.int (Int32.ofNat k))))) 505 (.inr (12, (mL 88 (mr_S (va_up X 9 (Int32.ofNat k)) Y s)).set 10 (.int (Int32.ofNat k))))) 505 (.inr (12, (mL 88 (mr_S (va_up (va_up X 9 (Int32.ofNat k)) 10 (Int32.ofNat k)) Y s)).set 8 (.int 3)))) Q := by
            intro h6
            refine b_145_344 _ _ _ (by first | assumption | (exact mL_get (by decide)) | (rw [mL_len]; decide) | (simp only [mL_set]; exact mL_get (by decide)) | (simp only [mL_set, mL_len]; decide) | (exact va_eq) | (exact (va_ne (by omega)).trans (by assumption)) | (exact (va_ne (by omega)).trans va_eq) | (exact (va_ne (by omega)).trans ((va_ne (by omega)).trans (by assumption))) | (exact (va_ne (by omega)).trans ((va_ne (by omega)).trans ((va_ne (by omega)).trans (by assumption)))) | rfl | (exact Or.inl rfl) | (exact Or.inr rfl) | omega | (exact Nat.le_of_ble_eq_true rfl) | decide | (exact ⟨by decide, rfl, by decide⟩)) (by first | assumption | (exact mL_get (by decide)) | (rw [mL_len]; decide) | (simp only [mL_set]; exact mL_get (by decide)) | (simp only [mL_set, mL_len]; decide) | (exact va_eq) | (exact (va_ne (by omega)).trans (by assumption)) | (exact (va_ne (by omega)).trans va_eq) | (exact (va_ne (by omega)).trans ((va_ne (by omega)).trans (by assumption))) | (exact (va_ne (by omega)).trans ((va_ne (by omega)).trans ((va_ne (by omega)).trans (by assumption)))) | rfl | (exact Or.inl rfl) | (exact Or.inr rfl) | omega | (exact Nat.le_of_ble_eq_true rfl) | decide | (exact ⟨by decide, rfl, by decide⟩)) ?_
            rw [of_succ]
            refine sp_cc hn hBb hg hL h2 (by omega) ?_
            refine b_145_351 _ _ _ ?_ ?_
            · intro z
              refine b_145_360 _ _ _ ?_
              refine hgo 1 ?_
              rw [if_neg (fun h => z h.2)]
            · intro z
              refine b_145_356 _ _ _ ?_
              refine hgo 2 ?_
              rw [if_pos ⟨h6, Classical.not_not.mp z⟩]
          refine b_145_319 _ _ _ (by first | assumption | (exact mL_get (by decide)) | (rw [mL_len]; decide) | (simp only [mL_set]; exact mL_get (by decide)) | (simp only [mL_set, mL_len]; decide) | (exact va_eq) | (exact (va_ne (by omega)).trans (by assumption)) | (exact (va_ne (by omega)).trans va_eq) | (exact (va_ne (by omega)).trans ((va_ne (by omega)).trans (by assumption))) | (exact (va_ne (by omega)).trans ((va_ne (by omega)).trans ((va_ne (by omega)).trans (by assumption)))) | rfl | (exact Or.inl rfl) | (exact Or.inr rfl) | omega | (exact Nat.le_of_ble_eq_true rfl) | decide | (exact ⟨by decide, rfl, by decide⟩)) (by first | assumption | (exact mL_get (by decide)) | (rw [mL_len]; decide) | (simp only [mL_set]; exact mL_get (by decide)) | (simp only [mL_set, mL_len]; decide) | (exact va_eq) | (exact (va_ne (by omega)).trans (by assumption)) | (exact (va_ne (by omega)).trans va_eq) | (exact (va_ne (by omega)).trans ((va_ne (by omega)).trans (by assumption))) | (exact (va_ne (by omega)).trans ((va_ne (by omega)).trans ((va_ne (by omega)).trans (by assumption)))) | rfl | (exact Or.inl rfl) | (exact Or.inr rfl) | omega | (exact Nat.le_of_ble_eq_true rfl) | decide | (exact ⟨by decide, rfl, by decide⟩)) (by first | assumption | (exact mL_get (by decide)) | (rw [mL_len]; decide) | (simp only [mL_set]; exact mL_get (by decide)) | (simp only [mL_set, mL_len]; decide) | (exact va_eq) | (exact (va_ne (by omega)).trans (by assumption)) | (exact (va_ne (by omega)).trans va_eq) | (exact (va_ne (by omega)).trans ((va_ne (by omega)).trans (by assumption))) | (exact (va_ne (by omega)).trans ((va_ne (by omega)).trans ((va_ne (by omega)).trans (by assumption)))) | rfl | (exact Or.inl rfl) | (exact Or.inr rfl) | omega | (exact Nat.le_of_ble_eq_true rfl) | decide | (exact ⟨by decide, rfl, by decide⟩)) (by first | assumption | (exact mL_get (by decide)) | (rw [mL_len]; decide) | (simp only [mL_set]; exact mL_get (by decide)) | (simp only [mL_set, mL_len]; decide) | (exact va_eq) | (exact (va_ne (by omega)).trans (by assumption)) | (exact (va_ne (by omega)).trans va_eq) | (exact (va_ne (by omega)).trans ((va_ne (by omega)).trans (by assumption))) | (exact (va_ne (by omega)).trans ((va_ne (by omega)).trans ((va_ne (by omega)).trans (by assumption)))) | rfl | (exact Or.inl rfl) | (exact Or.inr rfl) | omega | (exact Nat.le_of_ble_eq_true rfl) | decide | (exact ⟨by decide, rfl, by decide⟩)) (by first | assumption | (exact mL_get (by decide)) | (rw [mL_len]; decide) | (simp only [mL_set]; exact mL_get (by decide)) | (simp only [mL_set, mL_len]; decide) | (exact va_eq) | (exact (va_ne (by omega)).trans (by assumption)) | (exact (va_ne (by omega)).trans va_eq) | (exact (va_ne (by omega)).trans ((va_ne (by omega)).trans (by assumption))) | (exact (va_ne (by omega)).trans ((va_ne (by omega)).trans ((va_ne (by omega)).trans (by assumption)))) | rfl | (exact Or.inl rfl) | (exact Or.inr rfl) | omega | (exact Nat.le_of_ble_eq_true rfl) | decide | (exact ⟨by decide, rfl, by decide⟩)) ?_
          refine sp_cc hn hBb hg hL h2 (by omega) ?_
          refine b_145_329 _ _ _ ?_ ?_
          · intro z
            exact h344 (Or.inl z)
          · intro z
            refine b_145_338 _ _ _ ?_ ?_
            · intro z2
              refine b_145_360 _ _ _ ?_
              refine hgo 1 ?_
              rw [if_neg (fun h => h.1.elim z z2)]
            · intro z2
              exact h344 (Or.inr (Classical.not_not.mp z2))
        -- minus or not
        have hmin : ∀ m : Int32, (m = 0 ∧ ¬ ms_c g L k = 45 ∨ m = 1 ∧ ms_c g L k = 45) → mi_W (d + 1 + 1 + 1 + 1 + 1) 145 189 [some (.ref 505), some (.int (Int32.ofNat k)), none, none] [.int m] (n, sl, va_up (va_up f 505 (.inr (12, (mL 88 (mr_S X Y s)).set 9 (.int (Int32.ofNat k))))) 505 (.inr (12, (mL 88 (mr_S (va_up X 9 (Int32.ofNat k)) Y s)).set 10 (.int (Int32.ofNat k))))) Q := by
          intro m hm
          refine b_145_189 _ _ _ (by first | assumption | (exact mL_get (by decide)) | (rw [mL_len]; decide) | (simp only [mL_set]; exact mL_get (by decide)) | (simp only [mL_set, mL_len]; decide) | (exact va_eq) | (exact (va_ne (by omega)).trans (by assumption)) | (exact (va_ne (by omega)).trans va_eq) | (exact (va_ne (by omega)).trans ((va_ne (by omega)).trans (by assumption))) | (exact (va_ne (by omega)).trans ((va_ne (by omega)).trans ((va_ne (by omega)).trans (by assumption)))) | rfl | (exact Or.inl rfl) | (exact Or.inr rfl) | omega | (exact Nat.le_of_ble_eq_true rfl) | decide | (exact ⟨by decide, rfl, by decide⟩)) (by first | assumption | (exact mL_get (by decide)) | (rw [mL_len]; decide) | (simp only [mL_set]; exact mL_get (by decide)) | (simp only [mL_set, mL_len]; decide) | (exact va_eq) | (exact (va_ne (by omega)).trans (by assumption)) | (exact (va_ne (by omega)).trans va_eq) | (exact (va_ne (by omega)).trans ((va_ne (by omega)).trans (by assumption))) | (exact (va_ne (by omega)).trans ((va_ne (by omega)).trans ((va_ne (by omega)).trans (by assumption)))) | rfl | (exact Or.inl rfl) | (exact Or.inr rfl) | omega | (exact Nat.le_of_ble_eq_true rfl) | decide | (exact ⟨by decide, rfl, by decide⟩)) ?_
          refine sp_cc hn hBa hg hL ha2 (by omega) ?_
          refine b_145_195 _ _ _ ?_
          refine sp_digit (fun hdg => ?_) (fun hdg => ?_)
          · refine b_145_198 _ _ _ ?_ ?_
            · intro _
              rcases hm with ⟨hm, _⟩ | ⟨_, hm⟩
              · exact hnum m k _ hkL (Or.inl ⟨hm, rfl, hdg⟩)
              · rw [hm] at hdg
                exact absurd hdg (by decide)
            · intro z
              exact absurd (by decide) z
          · refine b_145_198 _ _ _ ?_ ?_
            · intro z
              exact absurd rfl z
            · intro _
              refine b_145_201 _ _ _ ?_ ?_
              · intro hm0
                refine hsgn m _ hm hdg (fun h => ?_)
                rcases hm with ⟨_, hm⟩ | ⟨hm, _⟩
                · exact hm h.1
                · rw [hm] at hm0
                  exact absurd hm0 (by decide)
              · intro hm0
                have hm45 : ms_c g L k = 45 ∧ m = 1 := by
                  rcases hm with ⟨hm, _⟩ | ⟨hm, h⟩
                  · exact absurd hm hm0
                  · exact ⟨h, hm⟩
                refine b_145_205 _ _ _ (by first | assumption | (exact mL_get (by decide)) | (rw [mL_len]; decide) | (simp only [mL_set]; exact mL_get (by decide)) | (simp only [mL_set, mL_len]; decide) | (exact va_eq) | (exact (va_ne (by omega)).trans (by assumption)) | (exact (va_ne (by omega)).trans va_eq) | (exact (va_ne (by omega)).trans ((va_ne (by omega)).trans (by assumption))) | (exact (va_ne (by omega)).trans ((va_ne (by omega)).trans ((va_ne (by omega)).trans (by assumption)))) | rfl | (exact Or.inl rfl) | (exact Or.inr rfl) | omega | (exact Nat.le_of_ble_eq_true rfl) | decide | (exact ⟨by decide, rfl, by decide⟩)) (by first | assumption | (exact mL_get (by decide)) | (rw [mL_len]; decide) | (simp only [mL_set]; exact mL_get (by decide)) | (simp only [mL_set, mL_len]; decide) | (exact va_eq) | (exact (va_ne (by omega)).trans (by assumption)) | (exact (va_ne (by omega)).trans va_eq) | (exact (va_ne (by omega)).trans ((va_ne (by omega)).trans (by assumption))) | (exact (va_ne (by omega)).trans ((va_ne (by omega)).trans ((va_ne (by omega)).trans (by assumption)))) | rfl | (exact Or.inl rfl) | (exact Or.inr rfl) | omega | (exact Nat.le_of_ble_eq_true rfl) | decide | (exact ⟨by decide, rfl, by decide⟩)) ?_
                rw [of_succ]
                refine sp_cc hn hBa hg hL ha2 (by omega) ?_
                refine b_145_212 _ _ _ ?_
                refine sp_digit (fun hd2 => ?_) (fun hd2 => ?_)
                · refine b_145_215 _ _ _ ?_ ?_
                  · intro z
                    exact absurd z (by decide)
                  · intro _
                    exact hnum m (k + 1) _ (Nat.le_of_lt (ms_lt_L (P := mr_dg) ms_0.2 hd2)) (Or.inr ⟨hm45.2, rfl, hdg, hm45.1, hd2⟩)
                · refine b_145_215 _ _ _ ?_ ?_
                  · intro _
                    exact hsgn m _ hm hdg (fun h => hd2 h.2)
                  · intro z
                    exact absurd rfl z
        refine b_145_179 _ _ _ ?_ ?_
        · intro z
          refine b_145_188 _ _ _ ?_
          exact hmin 0 (Or.inl ⟨rfl, z⟩)
        · intro z
          refine b_145_184 _ _ _ ?_
          exact hmin 1 (Or.inr ⟨rfl, Classical.not_not.mp z⟩)
      · intro z
        exact absurd rfl z
  · intro z
    have z : ¬ ¬ Int32.ofNat k = X 2 := z
    have hkl : k = L := (of_eq (by omega) (by omega)).mp ((Classical.not_not.mp z).trans h2)
    have ht : ms_tk g L k = ⟨39, k, k, 0⟩ := by
      unfold ms_tk
      rw [if_pos hkl]
    have hBb := hBa.x (k := 8) (v := 0) rfl
    have hff : ∀ q, ¬ q = 505 → va_up (va_up (va_up f 505 (.inr (12, (mL 88 (mr_S X Y s)).set 9 (.int (Int32.ofNat k))))) 505 (.inr (12, (mL 88 (mr_S (va_up X 9 (Int32.ofNat k)) Y s)).set 10 (.int (Int32.ofNat k))))) 505 (.inr (12, (mL 88 (mr_S (va_up (va_up X 9 (Int32.ofNat k)) 10 (Int32.ofNat k)) Y s)).set 8 (.int 0)))  q = f q := fun q hq => by rw [va_ne hq, va_ne hq, va_ne hq]
    refine b_145_59 _ _ _ (by first | assumption | (exact mL_get (by decide)) | (rw [mL_len]; decide) | (simp only [mL_set]; exact mL_get (by decide)) | (simp only [mL_set, mL_len]; decide) | (exact va_eq) | (exact (va_ne (by omega)).trans (by assumption)) | (exact (va_ne (by omega)).trans va_eq) | (exact (va_ne (by omega)).trans ((va_ne (by omega)).trans (by assumption))) | (exact (va_ne (by omega)).trans ((va_ne (by omega)).trans ((va_ne (by omega)).trans (by assumption)))) | rfl | (exact Or.inl rfl) | (exact Or.inr rfl) | omega | (exact Nat.le_of_ble_eq_true rfl) | decide | (exact ⟨by decide, rfl, by decide⟩)) (by first | assumption | (exact mL_get (by decide)) | (rw [mL_len]; decide) | (simp only [mL_set]; exact mL_get (by decide)) | (simp only [mL_set, mL_len]; decide) | (exact va_eq) | (exact (va_ne (by omega)).trans (by assumption)) | (exact (va_ne (by omega)).trans va_eq) | (exact (va_ne (by omega)).trans ((va_ne (by omega)).trans (by assumption))) | (exact (va_ne (by omega)).trans ((va_ne (by omega)).trans ((va_ne (by omega)).trans (by assumption)))) | rfl | (exact Or.inl rfl) | (exact Or.inr rfl) | omega | (exact Nat.le_of_ble_eq_true rfl) | decide | (exact ⟨by decide, rfl, by decide⟩)) (by first | assumption | (exact mL_get (by decide)) | (rw [mL_len]; decide) | (simp only [mL_set]; exact mL_get (by decide)) | (simp only [mL_set, mL_len]; decide) | (exact va_eq) | (exact (va_ne (by omega)).trans (by assumption)) | (exact (va_ne (by omega)).trans va_eq) | (exact (va_ne (by omega)).trans ((va_ne (by omega)).trans (by assumption))) | (exact (va_ne (by omega)).trans ((va_ne (by omega)).trans ((va_ne (by omega)).trans (by assumption)))) | rfl | (exact Or.inl rfl) | (exact Or.inr rfl) | omega | (exact Nat.le_of_ble_eq_true rfl) | decide | (exact ⟨by decide, rfl, by decide⟩)) ?_
    refine k1 _ _ _ (by rw [ht]; show ¬ 39 = 40; decide) hBb (hK.to (fun q hq => hff q (by omega))) ?_ rfl ⟨fun j e3 e8 e9 e10 => by rw [va_ne e8, va_ne e10, va_ne e9], fun _ _ => rfl, hff⟩
    refine ⟨hg, hL, h2, ?_, ?_, ?_, ?_, k, hkL, rfl⟩
    · rw [ht]
      rfl
    · rw [ht]
      rfl
    · rw [ht]
      rfl
    · rw [ht]
      intro h
      exact absurd h (show ¬ 39 = 37 by decide)
end
