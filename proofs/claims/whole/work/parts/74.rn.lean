def mr_KX (n sl p : Nat) (f : Nat → mi_C) (X : Nat → Int32) (I : Nat → Nat → Int32) (J : Nat → Nat → Int64) (Q : (Option Value ⊕ Nat) → mi_H → Prop) : Prop := ∀ r f' X' Y' I' J' e' k' w' y', mr_R p f' X' Y' I' J' e' k' w' y' → k' ≤ 100 → w' ≤ 1500 → y' ≤ 1500 → mr_ch p f f' X X' I I' J J' → Q (.inl (some (.int r))) (n, sl, f')
section
variable {d n sl p c : Nat} {a b : Int64} {Q : (Option Value ⊕ Nat) → mi_H → Prop}
theorem mr_KX.of {f f1 : Nat → mi_C} {X X1 : Nat → Int32} {I I1 : Nat → Nat → Int32} {J J1 : Nat → Nat → Int64} (h : mr_KX n sl p f X I J Q) (hc : mr_ch p f f1 X X1 I I1 J J1) : mr_KX n sl p f1 X1 I1 J1 Q :=
  fun r f' X' Y' I' J' e' k' w' y' hR h1 h2 h3 hc' => h r f' X' Y' I' J' e' k' w' y' hR h1 h2 h3 (hc.trans hc')
theorem sb_x150 {Y : Nat → Int64} {f : Nat → mi_C} {X : Nat → Int32} {I : Nat → Nat → Int32} {J : Nat → Nat → Int64} {e : mr_E} {l5 l6 : Int32} (hP : mr_P p n) (hB : mr_B f X Y (.ref p) I J) (K : ∀ r, Q (.inl (some (.int r))) (n, sl, f)) : mi_W d 174 150 [some (.ref 505), some (.long a), none, some (.long b), none, some (.int (Int32.ofNat c)), some (.int l5), some (.int l6)] [] (n, sl, f) Q := by
  have q505 := hB.1
  have hn := hP.2.2
  refine b_174_150 _ _ _ ?_ ?_
  · intro _
    refine b_174_160 _ _ _ ?_ ?_
    · intro _
      refine b_174_176 _ _ _ ?_
      refine b_174_177 _ _ _ ?_
      exact K _
    · intro _
      refine b_174_165 _ _ _ (by first | assumption | (exact mL_get (by decide)) | (rw [mL_len]; decide) | (simp only [mL_set]; exact mL_get (by decide)) | (simp only [mL_set, mL_len]; decide) | (exact va_eq) | (exact (va_ne (by omega)).trans (by assumption)) | (exact (va_ne (by omega)).trans va_eq) | (exact (va_ne (by omega)).trans ((va_ne (by omega)).trans (by assumption))) | (exact (va_ne (by omega)).trans ((va_ne (by omega)).trans ((va_ne (by omega)).trans (by assumption)))) | rfl | (exact Or.inl rfl) | (exact Or.inr rfl) | omega | (exact Nat.le_of_ble_eq_true rfl) | decide | (exact ⟨by decide, rfl, by decide⟩)) (by first | assumption | (exact mL_get (by decide)) | (rw [mL_len]; decide) | (simp only [mL_set]; exact mL_get (by decide)) | (simp only [mL_set, mL_len]; decide) | (exact va_eq) | (exact (va_ne (by omega)).trans (by assumption)) | (exact (va_ne (by omega)).trans va_eq) | (exact (va_ne (by omega)).trans ((va_ne (by omega)).trans (by assumption))) | (exact (va_ne (by omega)).trans ((va_ne (by omega)).trans ((va_ne (by omega)).trans (by assumption)))) | rfl | (exact Or.inl rfl) | (exact Or.inr rfl) | omega | (exact Nat.le_of_ble_eq_true rfl) | decide | (exact ⟨by decide, rfl, by decide⟩)) (by first | assumption | (exact mL_get (by decide)) | (rw [mL_len]; decide) | (simp only [mL_set]; exact mL_get (by decide)) | (simp only [mL_set, mL_len]; decide) | (exact va_eq) | (exact (va_ne (by omega)).trans (by assumption)) | (exact (va_ne (by omega)).trans va_eq) | (exact (va_ne (by omega)).trans ((va_ne (by omega)).trans (by assumption))) | (exact (va_ne (by omega)).trans ((va_ne (by omega)).trans ((va_ne (by omega)).trans (by assumption)))) | rfl | (exact Or.inl rfl) | (exact Or.inr rfl) | omega | (exact Nat.le_of_ble_eq_true rfl) | decide | (exact ⟨by decide, rfl, by decide⟩)) ?_ ?_
      · intro _
        refine b_174_176 _ _ _ ?_
        refine b_174_177 _ _ _ ?_
        exact K _
      · intro _
        refine b_174_172 _ _ _ ?_
        refine b_174_177 _ _ _ ?_
        exact K _
  · intro _
    refine b_174_155 _ _ _ ?_
    refine b_174_177 _ _ _ ?_
    exact K _
theorem sb_x113 {Y : Nat → Int64} (hP : mr_P p n) (hc : c ≤ 16) (hd : 110 ≤ d) : ∀ (t i : Nat), i + t = c → ∀ (f : Nat → mi_C) (X : Nat → Int32) (I : Nat → Nat → Int32) (J : Nat → Nat → Int64) (e : mr_E) (k w y : Nat) (l5 : Int32), mr_R p f X Y I J e k w y → k ≤ 100 → w + k ≤ 200 + 4 * i → y + k ≤ 200 + 40 * i → mr_KX n sl p f X I J Q → mi_W (d + 1) 174 113 [some (.ref 505), some (.long a), none, some (.long b), none, some (.int (Int32.ofNat c)), some (.int l5), some (.int (Int32.ofNat i))] [] (n, sl, f) Q := by
  intro t
  induction t with
  | zero =>
    intro i hi f X I J e k w y l5 hR hk hw hy K
    have hB := hR.1
    refine b_174_113 _ _ _ ?_ ?_
    · intro _
      exact sb_x150 (e := e) hP hB (fun r => K r _ _ _ _ _ _ _ _ _ hR hk (by omega) (by omega) mr_ch_rfl)
    · intro z
      exact absurd ((of_le (by omega) (by omega)).mpr (by omega)) z
  | succ t ih =>
    intro i hi f X I J e k w y l5 hR hk hw hy K
    have hB := hR.1
    have q505 := hB.1
    have hn := hP.2.2
    have hstop : ∀ r, Q (.inl (some (.int r))) (n, sl, f) := fun r => K r _ _ _ _ _ _ _ _ _ hR hk (by omega) (by omega) mr_ch_rfl
    have hxi := ix_of (w := i) (m := 16) (by omega) (by decide)
    refine b_174_113 _ _ _ ?_ ?_
    · intro _
      exact sb_x150 (e := e) hP hB hstop
    · intro _
      refine b_174_120 _ _ _ ?_ ?_
      · intro _
        exact sb_x150 (e := e) hP hB hstop
      · intro _
        refine b_174_125 _ _ _ (by first | assumption | (exact mL_get (by decide)) | (rw [mL_len]; decide) | (simp only [mL_set]; exact mL_get (by decide)) | (simp only [mL_set, mL_len]; decide) | (exact va_eq) | (exact (va_ne (by omega)).trans (by assumption)) | (exact (va_ne (by omega)).trans va_eq) | (exact (va_ne (by omega)).trans ((va_ne (by omega)).trans (by assumption))) | (exact (va_ne (by omega)).trans ((va_ne (by omega)).trans ((va_ne (by omega)).trans (by assumption)))) | rfl | (exact Or.inl rfl) | (exact Or.inr rfl) | omega | (exact Nat.le_of_ble_eq_true rfl) | decide | (exact ⟨by decide, rfl, by decide⟩)) (by first | assumption | (exact mL_get (by decide)) | (rw [mL_len]; decide) | (simp only [mL_set]; exact mL_get (by decide)) | (simp only [mL_set, mL_len]; decide) | (exact va_eq) | (exact (va_ne (by omega)).trans (by assumption)) | (exact (va_ne (by omega)).trans va_eq) | (exact (va_ne (by omega)).trans ((va_ne (by omega)).trans (by assumption))) | (exact (va_ne (by omega)).trans ((va_ne (by omega)).trans ((va_ne (by omega)).trans (by assumption)))) | rfl | (exact Or.inl rfl) | (exact Or.inr rfl) | omega | (exact Nat.le_of_ble_eq_true rfl) | decide | (exact ⟨by decide, rfl, by decide⟩)) ?_
        obtain ⟨d, rfl⟩ : ∃ z, d = z + 2 := ⟨d - 2, by omega⟩
        refine sb_take hP (by omega) hxi (by omega) hR (fun r f1 X1 I1 J1 e1 k1 w1 hR1 h1 h2 hc1 => ?_)
        have hB1 := hR1.1
        have q505 := hB1.1
        have K1 := K.of hc1
        refine b_174_131 _ _ _ ?_ ?_
        · intro _
          refine b_174_144 _ _ _ ?_
          rw [of_succ]
          exact ih (i + 1) (by omega) f1 X1 I1 J1 e1 k1 w1 y _ hR1 (by omega) (by omega) (by omega) K1
        · intro _
          refine b_174_138 _ _ _ (by first | assumption | (exact mL_get (by decide)) | (rw [mL_len]; decide) | (simp only [mL_set]; exact mL_get (by decide)) | (simp only [mL_set, mL_len]; decide) | (exact va_eq) | (exact (va_ne (by omega)).trans (by assumption)) | (exact (va_ne (by omega)).trans va_eq) | (exact (va_ne (by omega)).trans ((va_ne (by omega)).trans (by assumption))) | (exact (va_ne (by omega)).trans ((va_ne (by omega)).trans ((va_ne (by omega)).trans (by assumption)))) | rfl | (exact Or.inl rfl) | (exact Or.inr rfl) | omega | (exact Nat.le_of_ble_eq_true rfl) | decide | (exact ⟨by decide, rfl, by decide⟩)) (by first | assumption | (exact mL_get (by decide)) | (rw [mL_len]; decide) | (simp only [mL_set]; exact mL_get (by decide)) | (simp only [mL_set, mL_len]; decide) | (exact va_eq) | (exact (va_ne (by omega)).trans (by assumption)) | (exact (va_ne (by omega)).trans va_eq) | (exact (va_ne (by omega)).trans ((va_ne (by omega)).trans (by assumption))) | (exact (va_ne (by omega)).trans ((va_ne (by omega)).trans ((va_ne (by omega)).trans (by assumption)))) | rfl | (exact Or.inl rfl) | (exact Or.inr rfl) | omega | (exact Nat.le_of_ble_eq_true rfl) | decide | (exact ⟨by decide, rfl, by decide⟩)) ?_
          refine sb_reduce hP k1 _ (by omega) f1 X1 I1 J1 e1 w1 y _ _ _ _ _ _ _ hR1 (by omega) (by omega) (fun r f2 X2 I2 J2 e2 k2 w2 y2 hR2 g1 g2 g3 hc2 => ?_)
          refine b_174_142 _ _ _ ?_
          refine b_174_144 _ _ _ ?_
          rw [of_succ]
          exact ih (i + 1) (by omega) f2 X2 I2 J2 e2 k2 w2 y2 _ hR2 (by omega) (by omega) (by omega) (K1.of hc2)
end
