/-! the first object: numbers, and its scanner -/
section
variable {x y : Int32} {a b : Nat}
theorem i_le (hx : x = Int32.ofNat a) (hy : y = Int32.ofNat b) (ha : a ≤ 1000000) (hb : b ≤ 1000000) : x ≤ y ↔ a ≤ b := by rw [hx, hy]; exact of_le ha hb
theorem i_lt (hx : x = Int32.ofNat a) (hy : y = Int32.ofNat b) (ha : a ≤ 1000000) (hb : b ≤ 1000000) : x < y ↔ a < b := by rw [hx, hy]; exact of_lt ha hb
theorem i_eq (hx : x = Int32.ofNat a) (hy : y = Int32.ofNat b) (ha : a ≤ 1000000) (hb : b ≤ 1000000) : x = y ↔ a = b := by rw [hx, hy]; exact of_eq ha hb
theorem ht9 {p : Nat} (h : mh_o p 9) : p + 3 < 505 ∧ mh_t (p + 1) = (3, 32, 9, p, 2) ∧ mh_t (p + 2) = (3, 8, 9, p, 3) ∧ mh_t (p + 3) = (3, 8, 9, p, 4) := mh_o9 ⟨p, h.1⟩ h.2
theorem dg_iff {c : Int32} : mr_dg c ↔ ¬ c < 48 ∧ ¬ 57 < c := by
  unfold mr_dg
  rw [Int64.le_iff_toInt_le, Int64.le_iff_toInt_le, Int32.toInt_toInt64, Int32.lt_iff_toInt_lt, Int32.lt_iff_toInt_lt, show (48 : Int64).toInt = 48 from rfl, show (57 : Int64).toInt = 57 from rfl, show (48 : Int32).toInt = 48 from rfl, show (57 : Int32).toInt = 57 from rfl]
  omega
theorem lt_iff {c : Int32} : mr_lt c ↔ (¬ c < 97 ∧ c ≤ 122) ∨ (¬ c < 65 ∧ c ≤ 90) ∨ c = 95 := by
  unfold mr_lt
  rw [Int64.le_iff_toInt_le, Int64.le_iff_toInt_le, Int64.le_iff_toInt_le, Int64.le_iff_toInt_le, Int32.toInt_toInt64, Int32.lt_iff_toInt_lt, Int32.lt_iff_toInt_lt, Int32.le_iff_toInt_le, Int32.le_iff_toInt_le, show (97 : Int64).toInt = 97 from rfl, show (122 : Int64).toInt = 122 from rfl, show (65 : Int64).toInt = 65 from rfl, show (90 : Int64).toInt = 90 from rfl, show (97 : Int32).toInt = 97 from rfl, show (122 : Int32).toInt = 122 from rfl, show (65 : Int32).toInt = 65 from rfl, show (90 : Int32).toInt = 90 from rfl, Int.not_lt, Int.not_lt]
theorem i_of {c : Int32} (h1 : 0 ≤ c.toInt) : c = Int32.ofNat c.toInt.toNat := by
  have h2 := Int32.toInt_lt c
  rw [← Int32.toInt_inj, Int32.toInt_ofNat_of_lt (by omega)]
  omega
theorem nm_10 : ∀ j : Fin 10, (Int32.ofNat (48 + j.1) - 48).toInt64 = (Int32.ofNat (48 + j.1)).toInt64 - 48 := by decide +kernel
theorem nm_eq {c : Int32} (h : mr_dg c) (v : Int64) : v * 10 + (c - 48).toInt64 = 10 * v + c.toInt64 - 48 := by
  have h' := dg_iff.mp h
  rw [Int32.lt_iff_toInt_lt, Int32.lt_iff_toInt_lt, show (48 : Int32).toInt = 48 from rfl, show (57 : Int32).toInt = 57 from rfl] at h'
  have e := i_of (c := c) (by omega)
  have h3 := nm_10 ⟨c.toInt.toNat - 48, by omega⟩
  simp only at h3
  rw [show 48 + (c.toInt.toNat - 48) = c.toInt.toNat by omega, ← e] at h3
  rw [h3, Int64.mul_comm, Int64.sub_eq_add_neg, Int64.sub_eq_add_neg, Int64.add_assoc]
theorem ms_c_lt {g : Nat → Int32} {L k : Nat} (h : k < L) : ms_c g L k = g k := by unfold ms_c; rw [if_pos h]
theorem ms_c_ge {g : Nat → Int32} {L k : Nat} (h : ¬ k < L) : ms_c g L k = 0 := by unfold ms_c; rw [if_neg h]
end
/-- the token in the scanner -/
def mh_tk (a : mh_A) (t : ms_T) (v : Int64) : mh_A := (fun c p i => if c = 1 then (if p = 1 then (if i = 2 then Int32.ofNat t.k else if i = 3 then Int32.ofNat t.a else if i = 4 then Int32.ofNat (t.b - t.a) else a.I c p i) else a.I c p i) else a.I c p i, fun c p i => if c = 1 then (if p = 1 then (if i = 5 then v else a.L c p i) else a.L c p i) else a.L c p i, a.2.2)
def mc_K (n : Nat) (f0 : Nat → mi_C) : Prop := n ≤ mi_SC ∧ ∀ c, c < mt_ns → ∃ fs, f0 (mi_SC + 1 + 2 * c) = .inr (17, fs)
section
variable {d n sl : Nat} {a : mh_A} {f0 : Nat → mi_C} {Q : (Option Value ⊕ Nat) → mi_H → Prop} {g : Nat → Int32} {L k : Nat}
theorem cs_let {c : Int32} {f : Nat → mi_C} (k1 : mr_lt c → Q (.inl (some (.int 1))) (n, sl, f)) (k0 : ¬ mr_lt c → Q (.inl (some (.int 0))) (n, sl, f)) : mi_W d 25 0 (mi_en 1 [.int c]) [] (n, sl, f) Q := by
  refine b_25_0 _ _ _ ?_ ?_
  · intro z0
    refine b_25_12 _ _ _ ?_ ?_
    · intro z12
      refine b_25_24 _ _ _ ?_ ?_
      · intro z24
        refine b_25_34 _ _ _ ?_
        refine b_25_35 _ _ _ (by first | assumption | (exact mL_get (by decide)) | (rw [mL_len]; decide) | (simp only [mL_set]; exact mL_get (by decide)) | (simp only [mL_set, mL_len]; decide) | (exact va_eq) | (exact (va_ne (by omega)).trans (by assumption)) | (exact (va_ne (by omega)).trans va_eq) | (exact (va_ne (by omega)).trans ((va_ne (by omega)).trans (by assumption))) | (exact (va_ne (by omega)).trans ((va_ne (by omega)).trans ((va_ne (by omega)).trans (by assumption)))) | rfl | (exact Or.inl rfl) | (exact Or.inr rfl) | omega | (exact Nat.le_of_ble_eq_true rfl) | decide | (exact ⟨by decide, rfl, by decide⟩)) ?_
        exact k0 (fun h => by rcases lt_iff.mp h with ⟨h1, h2⟩ | ⟨h1, h2⟩ | h <;> first | exact h1 z0 | exact z6 h2 | exact h1 z12 | exact z18 h2 | exact z24 h)
      · intro z24
        refine b_25_30 _ _ _ ?_
        refine b_25_35 _ _ _ (by first | assumption | (exact mL_get (by decide)) | (rw [mL_len]; decide) | (simp only [mL_set]; exact mL_get (by decide)) | (simp only [mL_set, mL_len]; decide) | (exact va_eq) | (exact (va_ne (by omega)).trans (by assumption)) | (exact (va_ne (by omega)).trans va_eq) | (exact (va_ne (by omega)).trans ((va_ne (by omega)).trans (by assumption))) | (exact (va_ne (by omega)).trans ((va_ne (by omega)).trans ((va_ne (by omega)).trans (by assumption)))) | rfl | (exact Or.inl rfl) | (exact Or.inr rfl) | omega | (exact Nat.le_of_ble_eq_true rfl) | decide | (exact ⟨by decide, rfl, by decide⟩)) ?_
        exact k1 (lt_iff.mpr (by first | exact Or.inl ⟨z0, z6⟩ | exact Or.inr (Or.inl ⟨z12, z18⟩) | exact Or.inr (Or.inr (Classical.not_not.mp z24))))
    · intro z12
      refine b_25_18 _ _ _ ?_ ?_
      · intro z18
        refine b_25_30 _ _ _ ?_
        refine b_25_35 _ _ _ (by first | assumption | (exact mL_get (by decide)) | (rw [mL_len]; decide) | (simp only [mL_set]; exact mL_get (by decide)) | (simp only [mL_set, mL_len]; decide) | (exact va_eq) | (exact (va_ne (by omega)).trans (by assumption)) | (exact (va_ne (by omega)).trans va_eq) | (exact (va_ne (by omega)).trans ((va_ne (by omega)).trans (by assumption))) | (exact (va_ne (by omega)).trans ((va_ne (by omega)).trans ((va_ne (by omega)).trans (by assumption)))) | rfl | (exact Or.inl rfl) | (exact Or.inr rfl) | omega | (exact Nat.le_of_ble_eq_true rfl) | decide | (exact ⟨by decide, rfl, by decide⟩)) ?_
        exact k1 (lt_iff.mpr (by first | exact Or.inl ⟨z0, z6⟩ | exact Or.inr (Or.inl ⟨z12, z18⟩) | exact Or.inr (Or.inr (Classical.not_not.mp z24))))
      · intro z18
        refine b_25_24 _ _ _ ?_ ?_
        · intro z24
          refine b_25_34 _ _ _ ?_
          refine b_25_35 _ _ _ (by first | assumption | (exact mL_get (by decide)) | (rw [mL_len]; decide) | (simp only [mL_set]; exact mL_get (by decide)) | (simp only [mL_set, mL_len]; decide) | (exact va_eq) | (exact (va_ne (by omega)).trans (by assumption)) | (exact (va_ne (by omega)).trans va_eq) | (exact (va_ne (by omega)).trans ((va_ne (by omega)).trans (by assumption))) | (exact (va_ne (by omega)).trans ((va_ne (by omega)).trans ((va_ne (by omega)).trans (by assumption)))) | rfl | (exact Or.inl rfl) | (exact Or.inr rfl) | omega | (exact Nat.le_of_ble_eq_true rfl) | decide | (exact ⟨by decide, rfl, by decide⟩)) ?_
          exact k0 (fun h => by rcases lt_iff.mp h with ⟨h1, h2⟩ | ⟨h1, h2⟩ | h <;> first | exact h1 z0 | exact z6 h2 | exact h1 z12 | exact z18 h2 | exact z24 h)
        · intro z24
          refine b_25_30 _ _ _ ?_
          refine b_25_35 _ _ _ (by first | assumption | (exact mL_get (by decide)) | (rw [mL_len]; decide) | (simp only [mL_set]; exact mL_get (by decide)) | (simp only [mL_set, mL_len]; decide) | (exact va_eq) | (exact (va_ne (by omega)).trans (by assumption)) | (exact (va_ne (by omega)).trans va_eq) | (exact (va_ne (by omega)).trans ((va_ne (by omega)).trans (by assumption))) | (exact (va_ne (by omega)).trans ((va_ne (by omega)).trans ((va_ne (by omega)).trans (by assumption)))) | rfl | (exact Or.inl rfl) | (exact Or.inr rfl) | omega | (exact Nat.le_of_ble_eq_true rfl) | decide | (exact ⟨by decide, rfl, by decide⟩)) ?_
          exact k1 (lt_iff.mpr (by first | exact Or.inl ⟨z0, z6⟩ | exact Or.inr (Or.inl ⟨z12, z18⟩) | exact Or.inr (Or.inr (Classical.not_not.mp z24))))
  · intro z0
    refine b_25_6 _ _ _ ?_ ?_
    · intro z6
      refine b_25_30 _ _ _ ?_
      refine b_25_35 _ _ _ (by first | assumption | (exact mL_get (by decide)) | (rw [mL_len]; decide) | (simp only [mL_set]; exact mL_get (by decide)) | (simp only [mL_set, mL_len]; decide) | (exact va_eq) | (exact (va_ne (by omega)).trans (by assumption)) | (exact (va_ne (by omega)).trans va_eq) | (exact (va_ne (by omega)).trans ((va_ne (by omega)).trans (by assumption))) | (exact (va_ne (by omega)).trans ((va_ne (by omega)).trans ((va_ne (by omega)).trans (by assumption)))) | rfl | (exact Or.inl rfl) | (exact Or.inr rfl) | omega | (exact Nat.le_of_ble_eq_true rfl) | decide | (exact ⟨by decide, rfl, by decide⟩)) ?_
      exact k1 (lt_iff.mpr (by first | exact Or.inl ⟨z0, z6⟩ | exact Or.inr (Or.inl ⟨z12, z18⟩) | exact Or.inr (Or.inr (Classical.not_not.mp z24))))
    · intro z6
      refine b_25_12 _ _ _ ?_ ?_
      · intro z12
        refine b_25_24 _ _ _ ?_ ?_
        · intro z24
          refine b_25_34 _ _ _ ?_
          refine b_25_35 _ _ _ (by first | assumption | (exact mL_get (by decide)) | (rw [mL_len]; decide) | (simp only [mL_set]; exact mL_get (by decide)) | (simp only [mL_set, mL_len]; decide) | (exact va_eq) | (exact (va_ne (by omega)).trans (by assumption)) | (exact (va_ne (by omega)).trans va_eq) | (exact (va_ne (by omega)).trans ((va_ne (by omega)).trans (by assumption))) | (exact (va_ne (by omega)).trans ((va_ne (by omega)).trans ((va_ne (by omega)).trans (by assumption)))) | rfl | (exact Or.inl rfl) | (exact Or.inr rfl) | omega | (exact Nat.le_of_ble_eq_true rfl) | decide | (exact ⟨by decide, rfl, by decide⟩)) ?_
          exact k0 (fun h => by rcases lt_iff.mp h with ⟨h1, h2⟩ | ⟨h1, h2⟩ | h <;> first | exact h1 z0 | exact z6 h2 | exact h1 z12 | exact z18 h2 | exact z24 h)
        · intro z24
          refine b_25_30 _ _ _ ?_
          refine b_25_35 _ _ _ (by first | assumption | (exact mL_get (by decide)) | (rw [mL_len]; decide) | (simp only [mL_set]; exact mL_get (by decide)) | (simp only [mL_set, mL_len]; decide) | (exact va_eq) | (exact (va_ne (by omega)).trans (by assumption)) | (exact (va_ne (by omega)).trans va_eq) | (exact (va_ne (by omega)).trans ((va_ne (by omega)).trans (by assumption))) | (exact (va_ne (by omega)).trans ((va_ne (by omega)).trans ((va_ne (by omega)).trans (by assumption)))) | rfl | (exact Or.inl rfl) | (exact Or.inr rfl) | omega | (exact Nat.le_of_ble_eq_true rfl) | decide | (exact ⟨by decide, rfl, by decide⟩)) ?_
          exact k1 (lt_iff.mpr (by first | exact Or.inl ⟨z0, z6⟩ | exact Or.inr (Or.inl ⟨z12, z18⟩) | exact Or.inr (Or.inr (Classical.not_not.mp z24))))
      · intro z12
        refine b_25_18 _ _ _ ?_ ?_
        · intro z18
          refine b_25_30 _ _ _ ?_
          refine b_25_35 _ _ _ (by first | assumption | (exact mL_get (by decide)) | (rw [mL_len]; decide) | (simp only [mL_set]; exact mL_get (by decide)) | (simp only [mL_set, mL_len]; decide) | (exact va_eq) | (exact (va_ne (by omega)).trans (by assumption)) | (exact (va_ne (by omega)).trans va_eq) | (exact (va_ne (by omega)).trans ((va_ne (by omega)).trans (by assumption))) | (exact (va_ne (by omega)).trans ((va_ne (by omega)).trans ((va_ne (by omega)).trans (by assumption)))) | rfl | (exact Or.inl rfl) | (exact Or.inr rfl) | omega | (exact Nat.le_of_ble_eq_true rfl) | decide | (exact ⟨by decide, rfl, by decide⟩)) ?_
          exact k1 (lt_iff.mpr (by first | exact Or.inl ⟨z0, z6⟩ | exact Or.inr (Or.inl ⟨z12, z18⟩) | exact Or.inr (Or.inr (Classical.not_not.mp z24))))
        · intro z18
          refine b_25_24 _ _ _ ?_ ?_
          · intro z24
            refine b_25_34 _ _ _ ?_
            refine b_25_35 _ _ _ (by first | assumption | (exact mL_get (by decide)) | (rw [mL_len]; decide) | (simp only [mL_set]; exact mL_get (by decide)) | (simp only [mL_set, mL_len]; decide) | (exact va_eq) | (exact (va_ne (by omega)).trans (by assumption)) | (exact (va_ne (by omega)).trans va_eq) | (exact (va_ne (by omega)).trans ((va_ne (by omega)).trans (by assumption))) | (exact (va_ne (by omega)).trans ((va_ne (by omega)).trans ((va_ne (by omega)).trans (by assumption)))) | rfl | (exact Or.inl rfl) | (exact Or.inr rfl) | omega | (exact Nat.le_of_ble_eq_true rfl) | decide | (exact ⟨by decide, rfl, by decide⟩)) ?_
            exact k0 (fun h => by rcases lt_iff.mp h with ⟨h1, h2⟩ | ⟨h1, h2⟩ | h <;> first | exact h1 z0 | exact z6 h2 | exact h1 z12 | exact z18 h2 | exact z24 h)
          · intro z24
            refine b_25_30 _ _ _ ?_
            refine b_25_35 _ _ _ (by first | assumption | (exact mL_get (by decide)) | (rw [mL_len]; decide) | (simp only [mL_set]; exact mL_get (by decide)) | (simp only [mL_set, mL_len]; decide) | (exact va_eq) | (exact (va_ne (by omega)).trans (by assumption)) | (exact (va_ne (by omega)).trans va_eq) | (exact (va_ne (by omega)).trans ((va_ne (by omega)).trans (by assumption))) | (exact (va_ne (by omega)).trans ((va_ne (by omega)).trans ((va_ne (by omega)).trans (by assumption)))) | rfl | (exact Or.inl rfl) | (exact Or.inr rfl) | omega | (exact Nat.le_of_ble_eq_true rfl) | decide | (exact ⟨by decide, rfl, by decide⟩)) ?_
            exact k1 (lt_iff.mpr (by first | exact Or.inl ⟨z0, z6⟩ | exact Or.inr (Or.inl ⟨z12, z18⟩) | exact Or.inr (Or.inr (Classical.not_not.mp z24))))
theorem cs_dig (hn : 575 ≤ n) (hL : a.I 1 1 6 = Int32.ofNat L) (h8 : L ≤ 8192) (hg : ∀ k, k < L → a.AI 1 1 0 k = g k) (hk : k ≤ 10000) (k1 : mr_dg (ms_c g L k) → Q (.inl (some (.int 1))) (n, sl, hc a f0)) (k0 : ¬ mr_dg (ms_c g L k) → Q (.inl (some (.int 0))) (n, sl, hc a f0)) : mi_W d 27 0 (mi_en 2 [.ref 1, .int (Int32.ofNat k)]) [] (n, sl, hc a f0) Q := by
  refine b_27_0 _ _ _ (by first | (exact hc_o (by first | assumption | (exact ⟨by decide, rfl⟩))) | assumption | (exact (hc_far (by omega)).trans (by assumption))) (by omega) (by first | rfl | assumption) ?_ ?_
  · intro z0
    have hkL : ¬ k < L := Nat.not_lt.mpr ((i_le hL rfl (by omega) (by omega)).mp z0)
    refine b_27_34 _ _ _ ?_
    refine b_27_35 _ _ _ (by first | assumption | (exact mL_get (by decide)) | (rw [mL_len]; decide) | (simp only [mL_set]; exact mL_get (by decide)) | (simp only [mL_set, mL_len]; decide) | (exact va_eq) | (exact (va_ne (by omega)).trans (by assumption)) | (exact (va_ne (by omega)).trans va_eq) | (exact (va_ne (by omega)).trans ((va_ne (by omega)).trans (by assumption))) | (exact (va_ne (by omega)).trans ((va_ne (by omega)).trans ((va_ne (by omega)).trans (by assumption)))) | rfl | (exact Or.inl rfl) | (exact Or.inr rfl) | omega | (exact Nat.le_of_ble_eq_true rfl) | decide | (exact ⟨by decide, rfl, by decide⟩)) ?_
    exact k0 (by first | (rw [ms_c_ge hkL]; exact ms_0.2) | (rw [ms_c_lt hkL, ← hg k hkL]; exact fun h => (dg_iff.mp h).1 z8) | (rw [ms_c_lt hkL, ← hg k hkL]; exact fun h => (dg_iff.mp h).2 z19))
  · intro z0
    have hkL : k < L := Nat.not_le.mp (fun h => z0 ((i_le hL rfl (by omega) (by omega)).mpr h))
    refine b_27_8 _ _ _ _ _ _ (by first | (exact hc_o (by first | assumption | (exact ⟨by decide, rfl⟩))) | assumption | (exact (hc_far (by omega)).trans (by assumption))) (by omega) (by first | rfl | assumption) (by first | (exact hc_ai (by omega) (by first | assumption | (exact (ht9 (by assumption)).2.1) | (exact (ht9 (by assumption)).2.2.1) | (exact (ht9 (by assumption)).2.2.2) | rfl) (by decide)) | assumption | (exact (hc_far (by omega)).trans (by assumption))) (by omega) (by first | assumption | (exact ix_of (by omega) (by omega)) | (exact ⟨by decide, rfl, by decide⟩)) ?_ ?_
    · intro z8
      refine b_27_34 _ _ _ ?_
      refine b_27_35 _ _ _ (by first | assumption | (exact mL_get (by decide)) | (rw [mL_len]; decide) | (simp only [mL_set]; exact mL_get (by decide)) | (simp only [mL_set, mL_len]; decide) | (exact va_eq) | (exact (va_ne (by omega)).trans (by assumption)) | (exact (va_ne (by omega)).trans va_eq) | (exact (va_ne (by omega)).trans ((va_ne (by omega)).trans (by assumption))) | (exact (va_ne (by omega)).trans ((va_ne (by omega)).trans ((va_ne (by omega)).trans (by assumption)))) | rfl | (exact Or.inl rfl) | (exact Or.inr rfl) | omega | (exact Nat.le_of_ble_eq_true rfl) | decide | (exact ⟨by decide, rfl, by decide⟩)) ?_
      exact k0 (by first | (rw [ms_c_ge hkL]; exact ms_0.2) | (rw [ms_c_lt hkL, ← hg k hkL]; exact fun h => (dg_iff.mp h).1 z8) | (rw [ms_c_lt hkL, ← hg k hkL]; exact fun h => (dg_iff.mp h).2 z19))
    · intro z8
      refine b_27_19 _ _ _ _ _ _ (by first | (exact hc_o (by first | assumption | (exact ⟨by decide, rfl⟩))) | assumption | (exact (hc_far (by omega)).trans (by assumption))) (by omega) (by first | rfl | assumption) (by first | (exact hc_ai (by omega) (by first | assumption | (exact (ht9 (by assumption)).2.1) | (exact (ht9 (by assumption)).2.2.1) | (exact (ht9 (by assumption)).2.2.2) | rfl) (by decide)) | assumption | (exact (hc_far (by omega)).trans (by assumption))) (by omega) (by first | assumption | (exact ix_of (by omega) (by omega)) | (exact ⟨by decide, rfl, by decide⟩)) ?_ ?_
      · intro z19
        refine b_27_34 _ _ _ ?_
        refine b_27_35 _ _ _ (by first | assumption | (exact mL_get (by decide)) | (rw [mL_len]; decide) | (simp only [mL_set]; exact mL_get (by decide)) | (simp only [mL_set, mL_len]; decide) | (exact va_eq) | (exact (va_ne (by omega)).trans (by assumption)) | (exact (va_ne (by omega)).trans va_eq) | (exact (va_ne (by omega)).trans ((va_ne (by omega)).trans (by assumption))) | (exact (va_ne (by omega)).trans ((va_ne (by omega)).trans ((va_ne (by omega)).trans (by assumption)))) | rfl | (exact Or.inl rfl) | (exact Or.inr rfl) | omega | (exact Nat.le_of_ble_eq_true rfl) | decide | (exact ⟨by decide, rfl, by decide⟩)) ?_
        exact k0 (by first | (rw [ms_c_ge hkL]; exact ms_0.2) | (rw [ms_c_lt hkL, ← hg k hkL]; exact fun h => (dg_iff.mp h).1 z8) | (rw [ms_c_lt hkL, ← hg k hkL]; exact fun h => (dg_iff.mp h).2 z19))
      · intro z19
        refine b_27_30 _ _ _ ?_
        refine b_27_35 _ _ _ (by first | assumption | (exact mL_get (by decide)) | (rw [mL_len]; decide) | (simp only [mL_set]; exact mL_get (by decide)) | (simp only [mL_set, mL_len]; decide) | (exact va_eq) | (exact (va_ne (by omega)).trans (by assumption)) | (exact (va_ne (by omega)).trans va_eq) | (exact (va_ne (by omega)).trans ((va_ne (by omega)).trans (by assumption))) | (exact (va_ne (by omega)).trans ((va_ne (by omega)).trans ((va_ne (by omega)).trans (by assumption)))) | rfl | (exact Or.inl rfl) | (exact Or.inr rfl) | omega | (exact Nat.le_of_ble_eq_true rfl) | decide | (exact ⟨by decide, rfl, by decide⟩)) ?_
        exact k1 (by rw [ms_c_lt hkL, ← hg k hkL]; exact dg_iff.mpr ⟨z8, z19⟩)
theorem cs_sk (hn : 575 ≤ n) (hL : a.I 1 1 6 = Int32.ofNat L) (h8 : L ≤ 8192) (hg : ∀ k, k < L → a.AI 1 1 0 k = g k) : ∀ (t k : Nat), k + t = L → mi_W d 24 46 [some (.ref 1), some (.int (Int32.ofNat (ms_sk g t k)))] [] (n, sl, hc a f0) Q → mi_W d 24 10 [some (.ref 1), some (.int (Int32.ofNat k))] [] (n, sl, hc a f0) Q := by
  intro t
  induction t with
  | zero =>
    intro k hk K
    refine b_24_10 _ _ _ (by first | (exact hc_o (by first | assumption | (exact ⟨by decide, rfl⟩))) | assumption | (exact (hc_far (by omega)).trans (by assumption))) (by omega) (by first | rfl | assumption) ?_ ?_
    · intro z10
      exact K
    · intro z10
      exact absurd ((i_le hL rfl (by omega) (by omega)).mpr (by omega)) z10
  | succ t ih =>
    intro k hk K
    refine b_24_10 _ _ _ (by first | (exact hc_o (by first | assumption | (exact ⟨by decide, rfl⟩))) | assumption | (exact (hc_far (by omega)).trans (by assumption))) (by omega) (by first | rfl | assumption) ?_ ?_
    · intro z10
      exact absurd ((i_le hL rfl (by omega) (by omega)).mp z10) (by omega)
    · intro z10
      refine b_24_18 _ _ _ _ _ _ (by first | (exact hc_o (by first | assumption | (exact ⟨by decide, rfl⟩))) | assumption | (exact (hc_far (by omega)).trans (by assumption))) (by omega) (by first | rfl | assumption) (by first | (exact hc_ai (by omega) (by first | assumption | (exact (ht9 (by assumption)).2.1) | (exact (ht9 (by assumption)).2.2.1) | (exact (ht9 (by assumption)).2.2.2) | rfl) (by decide)) | assumption | (exact (hc_far (by omega)).trans (by assumption))) (by omega) (by first | assumption | (exact ix_of (by omega) (by omega)) | (exact ⟨by decide, rfl, by decide⟩)) ?_ ?_
      · intro z18
        refine b_24_40 _ _ _ ?_
        have e : ms_sk g (t + 1) k = ms_sk g t (k + 1) := by
         show (if _ then _ else _) = _
         rw [if_pos]
         rw [← hg k (by omega)]
         first | exact Or.inr z18 | exact Or.inl (Classical.not_not.mp z29)
        rw [e] at K
        rw [of_succ]
        exact ih (k + 1) (by omega) K
      · intro z18
        refine b_24_29 _ _ _ _ _ _ (by first | (exact hc_o (by first | assumption | (exact ⟨by decide, rfl⟩))) | assumption | (exact (hc_far (by omega)).trans (by assumption))) (by omega) (by first | rfl | assumption) (by first | (exact hc_ai (by omega) (by first | assumption | (exact (ht9 (by assumption)).2.1) | (exact (ht9 (by assumption)).2.2.1) | (exact (ht9 (by assumption)).2.2.2) | rfl) (by decide)) | assumption | (exact (hc_far (by omega)).trans (by assumption))) (by omega) (by first | assumption | (exact ix_of (by omega) (by omega)) | (exact ⟨by decide, rfl, by decide⟩)) ?_ ?_
        · intro z29
          have e : ms_sk g (t + 1) k = k := by
           unfold ms_sk
           rw [if_neg]
           rw [← hg k (by omega)]
           exact fun h => h.elim z29 z18
          rw [e] at K
          exact K
        · intro z29
          refine b_24_40 _ _ _ ?_
          have e : ms_sk g (t + 1) k = ms_sk g t (k + 1) := by
           show (if _ then _ else _) = _
           rw [if_pos]
           rw [← hg k (by omega)]
           first | exact Or.inr z18 | exact Or.inl (Classical.not_not.mp z29)
          rw [e] at K
          rw [of_succ]
          exact ih (k + 1) (by omega) K
theorem cs_wd (hn : 575 ≤ n) (hL : a.I 1 1 6 = Int32.ofNat L) (h8 : L ≤ 8192) (hg : ∀ k, k < L → a.AI 1 1 0 k = g k) (h3 : a.I 1 1 3 = Int32.ofNat k) : ∀ (t e : Nat), e ≤ L → k ≤ e → e - k + t = 16 → Q (.inl none) (n, sl, hc (a.sI 1 1 4 (Int32.ofNat (ms_wd g L t e - k))) f0) → mi_W (d + 1) 26 5 [some (.ref 1), some (.int (Int32.ofNat e))] [] (n, sl, hc a f0) Q := by
  intro t
  induction t with
  | zero =>
    intro e heL hke he K
    have h16 : a.I 1 1 3 + 16 = Int32.ofNat (k + 16) := by rw [h3]; exact of_add' k 16
    refine b_26_5 _ _ _ (by first | (exact hc_o (by first | assumption | (exact ⟨by decide, rfl⟩))) | assumption | (exact (hc_far (by omega)).trans (by assumption))) (by omega) (by first | rfl | assumption) ?_ ?_
    · intro z5
      have e0 : ms_wd g L 0 e = e := rfl
      refine b_26_50 _ _ _ (by first | (exact hc_o (by first | assumption | (exact ⟨by decide, rfl⟩))) | assumption | (exact (hc_far (by omega)).trans (by assumption))) (by omega) (by first | rfl | assumption) (by first | (exact hc_o (by first | assumption | (exact ⟨by decide, rfl⟩))) | assumption | (exact (hc_far (by omega)).trans (by assumption))) (by omega) (Nat.le_of_ble_eq_true rfl) ?_
      refine hw_Q (hw_I (by first | assumption | (exact ⟨by decide, rfl⟩)) (by decide)) ?_
      rw [e0] at K
      have e1 : Int32.ofNat e - a.I 1 1 3 = Int32.ofNat (e - k) := by rw [h3]; exact of_sub' hke
      rw [e1]
      exact K
    · intro z5
      refine b_26_13 _ _ _ (by first | (exact hc_o (by first | assumption | (exact ⟨by decide, rfl⟩))) | assumption | (exact (hc_far (by omega)).trans (by assumption))) (by omega) (by first | rfl | assumption) ?_ ?_
      · intro z13
        have e0 : ms_wd g L 0 e = e := rfl
        refine b_26_50 _ _ _ (by first | (exact hc_o (by first | assumption | (exact ⟨by decide, rfl⟩))) | assumption | (exact (hc_far (by omega)).trans (by assumption))) (by omega) (by first | rfl | assumption) (by first | (exact hc_o (by first | assumption | (exact ⟨by decide, rfl⟩))) | assumption | (exact (hc_far (by omega)).trans (by assumption))) (by omega) (Nat.le_of_ble_eq_true rfl) ?_
        refine hw_Q (hw_I (by first | assumption | (exact ⟨by decide, rfl⟩)) (by decide)) ?_
        rw [e0] at K
        have e1 : Int32.ofNat e - a.I 1 1 3 = Int32.ofNat (e - k) := by rw [h3]; exact of_sub' hke
        rw [e1]
        exact K
      · intro z13
        exact absurd ((i_le h16 rfl (by omega) (by omega)).mpr (by omega)) z13
  | succ t ih =>
    intro e heL hke he K
    have h16 : a.I 1 1 3 + 16 = Int32.ofNat (k + 16) := by rw [h3]; exact of_add' k 16
    have e1 : Int32.ofNat e - a.I 1 1 3 = Int32.ofNat (e - k) := by rw [h3]; exact of_sub' hke
    refine b_26_5 _ _ _ (by first | (exact hc_o (by first | assumption | (exact ⟨by decide, rfl⟩))) | assumption | (exact (hc_far (by omega)).trans (by assumption))) (by omega) (by first | rfl | assumption) ?_ ?_
    · intro z5
      have hx := (i_le hL rfl (by omega) (by omega)).mp z5
      have e0 : ms_wd g L (t + 1) e = e := by
        unfold ms_wd
        rw [if_neg]
        rw [ms_c_ge (by omega)]
        exact not_or.mpr ms_0
      refine b_26_50 _ _ _ (by first | (exact hc_o (by first | assumption | (exact ⟨by decide, rfl⟩))) | assumption | (exact (hc_far (by omega)).trans (by assumption))) (by omega) (by first | rfl | assumption) (by first | (exact hc_o (by first | assumption | (exact ⟨by decide, rfl⟩))) | assumption | (exact (hc_far (by omega)).trans (by assumption))) (by omega) (Nat.le_of_ble_eq_true rfl) ?_
      refine hw_Q (hw_I (by first | assumption | (exact ⟨by decide, rfl⟩)) (by decide)) ?_
      rw [e0] at K
      rw [e1]
      exact K
    · intro z5
      have hx : e < L := Nat.not_le.mp (fun h => z5 ((i_le hL rfl (by omega) (by omega)).mpr h))
      refine b_26_13 _ _ _ (by first | (exact hc_o (by first | assumption | (exact ⟨by decide, rfl⟩))) | assumption | (exact (hc_far (by omega)).trans (by assumption))) (by omega) (by first | rfl | assumption) ?_ ?_
      · intro z13
        exact absurd ((i_le h16 rfl (by omega) (by omega)).mp z13) (by omega)
      · intro z13
        refine b_26_24 _ _ _ _ _ _ (by first | (exact hc_o (by first | assumption | (exact ⟨by decide, rfl⟩))) | assumption | (exact (hc_far (by omega)).trans (by assumption))) (by omega) (by first | rfl | assumption) (by first | (exact hc_ai (by omega) (by first | assumption | (exact (ht9 (by assumption)).2.1) | (exact (ht9 (by assumption)).2.2.1) | (exact (ht9 (by assumption)).2.2.2) | rfl) (by decide)) | assumption | (exact (hc_far (by omega)).trans (by assumption))) (by omega) (by first | assumption | (exact ix_of (by omega) (by omega)) | (exact ⟨by decide, rfl, by decide⟩)) ?_
        refine cs_let (fun hl => ?_) (fun hl => ?_)
        · rw [hg e hx, ← ms_c_lt (g := g) hx] at hl
          have e2 : ms_wd g L (t + 1) e = ms_wd g L t (e + 1) := by show (if _ then _ else _) = _; rw [if_pos (Or.inl hl)]
          refine b_26_33 _ _ _ ?_ ?_
          · intro z33
            refine b_26_44 _ _ _ ?_
            rw [of_succ]
            exact ih (e + 1) (by omega) (by omega) (by omega) (e2 ▸ K)
          · intro z33
            first | (exact absurd z33 (by decide)) | (exact absurd (by decide) z33) | (exact absurd rfl z33) | (exact absurd z33 (of_nn (by omega))) | (exact absurd (of_np (by omega)) z33) | omega
        · rw [hg e hx, ← ms_c_lt (g := g) hx] at hl
          refine b_26_33 _ _ _ ?_ ?_
          · intro z33
            first | (exact absurd z33 (by decide)) | (exact absurd (by decide) z33) | (exact absurd rfl z33) | (exact absurd z33 (of_nn (by omega))) | (exact absurd (of_np (by omega)) z33) | omega
          · intro z33
            refine b_26_36 _ _ _ (by first | (exact hc_o (by first | assumption | (exact ⟨by decide, rfl⟩))) | assumption | (exact (hc_far (by omega)).trans (by assumption))) (by omega) ?_
            refine cs_dig hn hL h8 hg (by omega) (fun hd => ?_) (fun hd => ?_)
            · have e2 : ms_wd g L (t + 1) e = ms_wd g L t (e + 1) := by show (if _ then _ else _) = _; rw [if_pos (Or.inr hd)]
              refine b_26_41 _ _ _ ?_ ?_
              · intro z41
                first | (exact absurd z41 (by decide)) | (exact absurd (by decide) z41) | (exact absurd rfl z41) | (exact absurd z41 (of_nn (by omega))) | (exact absurd (of_np (by omega)) z41) | omega
              · intro z41
                refine b_26_44 _ _ _ ?_
                rw [of_succ]
                exact ih (e + 1) (by omega) (by omega) (by omega) (e2 ▸ K)
            · have e0 : ms_wd g L (t + 1) e = e := by show (if _ then _ else _) = _; rw [if_neg (not_or.mpr ⟨hl, hd⟩)]
              refine b_26_41 _ _ _ ?_ ?_
              · intro z41
                refine b_26_50 _ _ _ (by first | (exact hc_o (by first | assumption | (exact ⟨by decide, rfl⟩))) | assumption | (exact (hc_far (by omega)).trans (by assumption))) (by omega) (by first | rfl | assumption) (by first | (exact hc_o (by first | assumption | (exact ⟨by decide, rfl⟩))) | assumption | (exact (hc_far (by omega)).trans (by assumption))) (by omega) (Nat.le_of_ble_eq_true rfl) ?_
                refine hw_Q (hw_I (by first | assumption | (exact ⟨by decide, rfl⟩)) (by decide)) ?_
                rw [e0] at K
                rw [e1]
                exact K
              · intro z41
                first | (exact absurd z41 (by decide)) | (exact absurd (by decide) z41) | (exact absurd rfl z41) | (exact absurd z41 (of_nn (by omega))) | (exact absurd (of_np (by omega)) z41) | omega
theorem cs_word (hn : 575 ≤ n) (hL : a.I 1 1 6 = Int32.ofNat L) (h8 : L ≤ 8192) (hg : ∀ k, k < L → a.AI 1 1 0 k = g k) (h3 : a.I 1 1 3 = Int32.ofNat k) (hk : k ≤ L) (K : Q (.inl none) (n, sl, hc (a.sI 1 1 4 (Int32.ofNat (ms_wd g L 16 k - k))) f0)) : mi_W (d + 1) 26 0 (mi_en 2 [.ref 1]) [] (n, sl, hc a f0) Q := by
  refine b_26_0 _ _ _ (by first | (exact hc_o (by first | assumption | (exact ⟨by decide, rfl⟩))) | assumption | (exact (hc_far (by omega)).trans (by assumption))) (by omega) (by first | rfl | assumption) ?_
  rw [h3]
  exact cs_wd hn hL h8 hg h3 16 k hk (Nat.le_refl _) (by omega) K
theorem cs_nm {l2 l3 : Int32} {b kf : Nat} (hn : 575 ≤ n) (hL : a.I 1 1 6 = Int32.ofNat L) (h8 : L ≤ 8192) (hg : ∀ k, k < L → a.AI 1 1 0 k = g k) (h3 : l3 = Int32.ofNat kf) (K : ∀ e v, (e, v) = ms_nm g L 17 kf 0 → mi_W (d + 1) 34 84 [some (.ref 1), some (.int l2), some (.int l3), some (.int (Int32.ofNat e)), some (.long v), none] [] (n, sl, hc a f0) Q) : ∀ (t e : Nat) (v : Int64), e ≤ L → kf ≤ e → e - kf + t = 17 → ms_nm g L 17 kf 0 = ms_nm g L t e v → mi_W (d + 1) 34 43 [some (.ref 1), some (.int l2), some (.int l3), some (.int (Int32.ofNat e)), some (.long v), none] [] (n, sl, hc a f0) Q := by
  intro t
  induction t with
  | zero =>
    intro e v heL hke he hs
    have h17 : l3 + 17 = Int32.ofNat (kf + 17) := by rw [h3]; exact of_add' kf 17
    refine b_34_43 _ _ _ ?_ ?_
    · intro z43
      exact K e v hs.symm
    · intro z43
      exact absurd ((i_le h17 rfl (by omega) (by omega)).mpr (by omega)) z43
  | succ t ih =>
    intro e v heL hke he hs
    have h17 : l3 + 17 = Int32.ofNat (kf + 17) := by rw [h3]; exact of_add' kf 17
    refine b_34_43 _ _ _ ?_ ?_
    · intro z43
      exact absurd ((i_le h17 rfl (by omega) (by omega)).mp z43) (by omega)
    · intro z43
      refine b_34_51 _ _ _ (by first | (exact hc_o (by first | assumption | (exact ⟨by decide, rfl⟩))) | assumption | (exact (hc_far (by omega)).trans (by assumption))) (by omega) ?_
      refine cs_dig hn hL h8 hg (by omega) (fun hd => ?_) (fun hd => ?_)
      · have hx : e < L := ms_lt_L (P := mr_dg) ms_0.2 hd
        have e2 : ms_nm g L (t + 1) e v = ms_nm g L t (e + 1) (10 * v + (ms_c g L e).toInt64 - 48) := by show (if _ then _ else _) = _; rw [if_pos hd]
        refine b_34_56 _ _ _ ?_ ?_
        · intro z56
          first | (exact absurd z56 (by decide)) | (exact absurd (by decide) z56) | (exact absurd rfl z56) | (exact absurd z56 (of_nn (by omega))) | (exact absurd (of_np (by omega)) z56) | omega
        · intro z56
          refine b_34_59 _ _ _ _ _ _ (by first | (exact hc_o (by first | assumption | (exact ⟨by decide, rfl⟩))) | assumption | (exact (hc_far (by omega)).trans (by assumption))) (by omega) (by first | rfl | assumption) (by first | (exact hc_ai (by omega) (by first | assumption | (exact (ht9 (by assumption)).2.1) | (exact (ht9 (by assumption)).2.2.1) | (exact (ht9 (by assumption)).2.2.2) | rfl) (by decide)) | assumption | (exact (hc_far (by omega)).trans (by assumption))) (by omega) (by first | assumption | (exact ix_of (by omega) (by omega)) | (exact ⟨by decide, rfl, by decide⟩)) ?_
          rw [of_succ, hg e hx, ← ms_c_lt (g := g) hx, nm_eq hd]
          exact ih (e + 1) _ (by omega) (by omega) (by omega) (hs.trans e2)
      · have e0 : ms_nm g L (t + 1) e v = (e, v) := by show (if _ then _ else _) = _; rw [if_neg hd]
        refine b_34_56 _ _ _ ?_ ?_
        · intro z56
          exact K e v (e0.symm.trans hs.symm)
        · intro z56
          first | (exact absurd z56 (by decide)) | (exact absurd (by decide) z56) | (exact absurd rfl z56) | (exact absurd z56 (of_nn (by omega))) | (exact absurd (of_np (by omega)) z56) | omega
/-- first: where the digits begin -/
theorem cs_num {kf : Nat} (hn : 575 ≤ n) (hL : a.I 1 1 6 = Int32.ofNat L) (h8 : L ≤ 8192) (hg : ∀ k, k < L → a.AI 1 1 0 k = g k) (h3 : a.I 1 1 3 = Int32.ofNat k) (hkL : k < L) (hf : (g k = 45 ∧ kf = k + 1) ∨ (¬ g k = 45 ∧ kf = k)) (hkf : kf ≤ L) (K : Q (.inl none) (n, sl, hc (((a.sI 1 1 4 (Int32.ofNat ((ms_nm g L 17 kf 0).1 - k))).sI 1 1 2 37).sL 1 1 5 (if g k = 45 then -(ms_nm g L 17 kf 0).2 else (ms_nm g L 17 kf 0).2)) f0)) : mi_W (d + 1) 34 0 (mi_en 6 [.ref 1]) [] (n, sl, hc a f0) Q := by
  have hx : mi_ix (a.I 1 1 3) 8200 k := by rw [h3]; exact ix_of (by omega) (by omega)
  have hgk := hg k hkL
  have hle := ms_nm_le (g := g) (L := L) 17 kf 0 hkf
  rcases hf with ⟨hm, rfl⟩ | ⟨hm, ek⟩
  · skip
    refine b_34_0 _ _ _ _ _ _ (by first | (exact hc_o (by first | assumption | (exact ⟨by decide, rfl⟩))) | assumption | (exact (hc_far (by omega)).trans (by assumption))) (by omega) (by first | rfl | assumption) (by first | (exact hc_o (by first | assumption | (exact ⟨by decide, rfl⟩))) | assumption | (exact (hc_far (by omega)).trans (by assumption))) (by omega) (by first | rfl | assumption) (by first | (exact hc_ai (by omega) (by first | assumption | (exact (ht9 (by assumption)).2.1) | (exact (ht9 (by assumption)).2.2.1) | (exact (ht9 (by assumption)).2.2.2) | rfl) (by decide)) | assumption | (exact (hc_far (by omega)).trans (by assumption))) (by omega) (by first | assumption | (exact ix_of (by omega) (by omega)) | (exact ⟨by decide, rfl, by decide⟩)) ?_ ?_
    · intro z0
      exact absurd (hgk.trans hm) z0
    · intro z0
      refine b_34_14 _ _ _ ?_
      refine b_34_19 _ _ _ ?_ ?_
      · intro z19
        first | (exact absurd z19 (by decide)) | (exact absurd (by decide) z19) | (exact absurd rfl z19) | (exact absurd z19 (of_nn (by omega))) | (exact absurd (of_np (by omega)) z19) | omega
      · intro z19
        refine b_34_24 _ _ _ (by first | (exact hc_o (by first | assumption | (exact ⟨by decide, rfl⟩))) | assumption | (exact (hc_far (by omega)).trans (by assumption))) (by omega) (by first | rfl | assumption) ?_
        refine b_34_37 _ _ _ ?_
        have e1 : a.I 1 1 3 + 1 = Int32.ofNat (k + 1) := by rw [h3]; exact of_succ k
        rw [e1]
        refine cs_nm (kf := k + 1) (b := 0) hn hL h8 hg rfl (fun e v hev => ?_) 17 (k + 1) 0 hkf (Nat.le_refl _) (by omega) rfl
        rw [← hev] at K hle
        rw [if_pos hm] at K
        have e2 : Int32.ofNat e - a.I 1 1 3 = Int32.ofNat (e - k) := by rw [h3]; exact of_sub' (by have := hle.1; omega)
        refine b_34_84 _ _ _ (by first | (exact hc_o (by first | assumption | (exact ⟨by decide, rfl⟩))) | assumption | (exact (hc_far (by omega)).trans (by assumption))) (by omega) (by first | rfl | assumption) (by first | (exact hc_o (by first | assumption | (exact ⟨by decide, rfl⟩))) | assumption | (exact (hc_far (by omega)).trans (by assumption))) (by omega) (Nat.le_of_ble_eq_true rfl) (by first | (exact (congrFun (hw_I (by first | assumption | (exact ⟨by decide, rfl⟩)) (by decide)) _).trans (hc_o (by first | assumption | (exact ⟨by decide, rfl⟩)))) | assumption | (exact (hc_far (by omega)).trans (by assumption))) (by omega) (Nat.le_of_ble_eq_true rfl) ?_ ?_
        · intro z84
          first | (exact absurd z84 (by decide)) | (exact absurd (by decide) z84) | (exact absurd rfl z84) | (exact absurd z84 (of_nn (by omega))) | (exact absurd (of_np (by omega)) z84) | omega
        · intro z84
          refine hw_W (hw_2 (hw_I (by first | assumption | (exact ⟨by decide, rfl⟩)) (by decide)) (hw_I (by first | assumption | (exact ⟨by decide, rfl⟩)) (by decide))) ?_
          refine b_34_105 _ _ _ ?_
          refine b_34_113 _ _ _ (by first | (exact hc_o (by first | assumption | (exact ⟨by decide, rfl⟩))) | assumption | (exact (hc_far (by omega)).trans (by assumption))) (by omega) (Nat.le_of_ble_eq_true rfl) ?_
          refine hw_Q (hw_L (by first | assumption | (exact ⟨by decide, rfl⟩)) (by decide)) ?_
          rw [e2]
          exact K
  · obtain rfl := ek.symm
    refine b_34_0 _ _ _ _ _ _ (by first | (exact hc_o (by first | assumption | (exact ⟨by decide, rfl⟩))) | assumption | (exact (hc_far (by omega)).trans (by assumption))) (by omega) (by first | rfl | assumption) (by first | (exact hc_o (by first | assumption | (exact ⟨by decide, rfl⟩))) | assumption | (exact (hc_far (by omega)).trans (by assumption))) (by omega) (by first | rfl | assumption) (by first | (exact hc_ai (by omega) (by first | assumption | (exact (ht9 (by assumption)).2.1) | (exact (ht9 (by assumption)).2.2.1) | (exact (ht9 (by assumption)).2.2.2) | rfl) (by decide)) | assumption | (exact (hc_far (by omega)).trans (by assumption))) (by omega) (by first | assumption | (exact ix_of (by omega) (by omega)) | (exact ⟨by decide, rfl, by decide⟩)) ?_ ?_
    · intro z0
      refine b_34_18 _ _ _ ?_
      refine b_34_19 _ _ _ ?_ ?_
      · intro z19
        refine b_34_33 _ _ _ (by first | (exact hc_o (by first | assumption | (exact ⟨by decide, rfl⟩))) | assumption | (exact (hc_far (by omega)).trans (by assumption))) (by omega) (by first | rfl | assumption) ?_
        refine b_34_37 _ _ _ ?_
        rw [h3]
        refine cs_nm (kf := k) (b := 0) hn hL h8 hg rfl (fun e v hev => ?_) 17 k 0 hkf (Nat.le_refl _) (by omega) rfl
        rw [← hev] at K hle
        rw [if_neg hm] at K
        have e2 : Int32.ofNat e - a.I 1 1 3 = Int32.ofNat (e - k) := by rw [h3]; exact of_sub' hle.1
        refine b_34_84 _ _ _ (by first | (exact hc_o (by first | assumption | (exact ⟨by decide, rfl⟩))) | assumption | (exact (hc_far (by omega)).trans (by assumption))) (by omega) (by first | rfl | assumption) (by first | (exact hc_o (by first | assumption | (exact ⟨by decide, rfl⟩))) | assumption | (exact (hc_far (by omega)).trans (by assumption))) (by omega) (Nat.le_of_ble_eq_true rfl) (by first | (exact (congrFun (hw_I (by first | assumption | (exact ⟨by decide, rfl⟩)) (by decide)) _).trans (hc_o (by first | assumption | (exact ⟨by decide, rfl⟩)))) | assumption | (exact (hc_far (by omega)).trans (by assumption))) (by omega) (Nat.le_of_ble_eq_true rfl) ?_ ?_
        · intro z84
          refine hw_W (hw_2 (hw_I (by first | assumption | (exact ⟨by decide, rfl⟩)) (by decide)) (hw_I (by first | assumption | (exact ⟨by decide, rfl⟩)) (by decide))) ?_
          refine b_34_111 _ _ _ ?_
          refine b_34_113 _ _ _ (by first | (exact hc_o (by first | assumption | (exact ⟨by decide, rfl⟩))) | assumption | (exact (hc_far (by omega)).trans (by assumption))) (by omega) (Nat.le_of_ble_eq_true rfl) ?_
          refine hw_Q (hw_L (by first | assumption | (exact ⟨by decide, rfl⟩)) (by decide)) ?_
          rw [e2]
          exact K
        · intro z84
          first | (exact absurd z84 (by decide)) | (exact absurd (by decide) z84) | (exact absurd rfl z84) | (exact absurd z84 (of_nn (by omega))) | (exact absurd (of_np (by omega)) z84) | omega
      · intro z19
        first | (exact absurd z19 (by decide)) | (exact absurd (by decide) z19) | (exact absurd rfl z19) | (exact absurd z19 (of_nn (by omega))) | (exact absurd (of_np (by omega)) z19) | omega
    · intro z0
      exact absurd (hgk.symm.trans (Classical.not_not.mp z0)) hm
theorem cs_sg {c e q : Int32} {f : Nat → mi_C} (hq : (q = 1 ∧ e = 61) ∨ (q = 0 ∧ ¬ e = 61)) (K : Q (.inl (some (.int (Int32.ofNat (ms_sg c e))))) (n, sl, f)) : mi_W d 36 0 (mi_en 2 [.int c, .int q]) [] (n, sl, f) Q := by
  by_cases h40 : c = 40
  · subst h40
    unfold ms_sg at K
    rw [if_pos rfl] at K
    refine b_36_0 (t3 := 100) _ _ _ (by decide +kernel) ?_
    refine b_36_100 _ _ _ ?_
    exact K
  by_cases h41 : c = 41
  · subst h41
    unfold ms_sg at K
    rw [if_neg (by decide), if_pos rfl] at K
    refine b_36_0 (t3 := 103) _ _ _ (by decide +kernel) ?_
    refine b_36_103 _ _ _ ?_
    exact K
  by_cases h42 : c = 42
  · subst h42
    unfold ms_sg at K
    rw [if_neg (by decide), if_neg (by decide), if_neg (by decide), if_neg (by decide), if_neg (by decide), if_neg (by decide), if_pos rfl] at K
    refine b_36_0 (t3 := 118) _ _ _ (by decide +kernel) ?_
    refine b_36_118 _ _ _ ?_
    exact K
  by_cases h43 : c = 43
  · subst h43
    unfold ms_sg at K
    rw [if_neg (by decide), if_neg (by decide), if_neg (by decide), if_neg (by decide), if_pos rfl] at K
    refine b_36_0 (t3 := 112) _ _ _ (by decide +kernel) ?_
    refine b_36_112 _ _ _ ?_
    exact K
  by_cases h45 : c = 45
  · subst h45
    unfold ms_sg at K
    rw [if_neg (by decide), if_neg (by decide), if_neg (by decide), if_neg (by decide), if_neg (by decide), if_pos rfl] at K
    refine b_36_0 (t3 := 115) _ _ _ (by decide +kernel) ?_
    refine b_36_115 _ _ _ ?_
    exact K
  by_cases h47 : c = 47
  · subst h47
    unfold ms_sg at K
    rw [if_neg (by decide), if_neg (by decide), if_neg (by decide), if_neg (by decide), if_neg (by decide), if_neg (by decide), if_neg (by decide), if_pos rfl] at K
    refine b_36_0 (t3 := 121) _ _ _ (by decide +kernel) ?_
    refine b_36_121 _ _ _ ?_
    exact K
  by_cases h60 : c = 60
  · subst h60
    unfold ms_sg at K
    rw [if_neg (by decide), if_neg (by decide), if_neg (by decide), if_neg (by decide), if_neg (by decide), if_neg (by decide), if_neg (by decide), if_neg (by decide), if_pos rfl] at K
    refine b_36_0 (t3 := 124) _ _ _ (by decide +kernel) ?_
    rcases hq with ⟨rfl, he⟩ | ⟨rfl, he⟩
    · rw [if_pos he] at K
      refine b_36_124 _ _ _ ?_ ?_
      · intro z
        exact absurd z (by decide)
      · intro _
        refine b_36_128 _ _ _ ?_
        refine b_36_135 _ _ _ ?_
        exact K
    · rw [if_neg he] at K
      refine b_36_124 _ _ _ ?_ ?_
      · intro _
        refine b_36_133 _ _ _ ?_
        refine b_36_135 _ _ _ ?_
        exact K
      · intro z
        exact absurd rfl z
  by_cases h61 : c = 61
  · subst h61
    unfold ms_sg at K
    rw [if_neg (by decide), if_neg (by decide), if_neg (by decide), if_neg (by decide), if_neg (by decide), if_neg (by decide), if_neg (by decide), if_neg (by decide), if_neg (by decide), if_neg (by decide), if_pos rfl] at K
    refine b_36_0 (t3 := 148) _ _ _ (by decide +kernel) ?_
    refine b_36_148 _ _ _ ?_
    exact K
  by_cases h62 : c = 62
  · subst h62
    unfold ms_sg at K
    rw [if_neg (by decide), if_neg (by decide), if_neg (by decide), if_neg (by decide), if_neg (by decide), if_neg (by decide), if_neg (by decide), if_neg (by decide), if_neg (by decide), if_pos rfl] at K
    refine b_36_0 (t3 := 136) _ _ _ (by decide +kernel) ?_
    rcases hq with ⟨rfl, he⟩ | ⟨rfl, he⟩
    · rw [if_pos he] at K
      refine b_36_136 _ _ _ ?_ ?_
      · intro z
        exact absurd z (by decide)
      · intro _
        refine b_36_140 _ _ _ ?_
        refine b_36_147 _ _ _ ?_
        exact K
    · rw [if_neg he] at K
      refine b_36_136 _ _ _ ?_ ?_
      · intro _
        refine b_36_145 _ _ _ ?_
        refine b_36_147 _ _ _ ?_
        exact K
      · intro z
        exact absurd rfl z
  by_cases h91 : c = 91
  · subst h91
    unfold ms_sg at K
    rw [if_neg (by decide), if_neg (by decide), if_pos rfl] at K
    refine b_36_0 (t3 := 106) _ _ _ (by decide +kernel) ?_
    refine b_36_106 _ _ _ ?_
    exact K
  by_cases h93 : c = 93
  · subst h93
    unfold ms_sg at K
    rw [if_neg (by decide), if_neg (by decide), if_neg (by decide), if_pos rfl] at K
    refine b_36_0 (t3 := 109) _ _ _ (by decide +kernel) ?_
    refine b_36_109 _ _ _ ?_
    exact K
  unfold ms_sg at K
  rw [if_neg h40, if_neg h41, if_neg h91, if_neg h93, if_neg h43, if_neg h45, if_neg h42, if_neg h47, if_neg h60, if_neg h62, if_neg h61] at K
  refine b_36_0 (t3 := 151) _ _ _ (by show mi_j 1 (Op.lookupswitch.offset [(40, 99), (41, 102), (42, 117), (43, 111), (45, 114), (47, 120), (60, 123), (61, 147), (62, 135), (91, 105), (93, 108)] 150 c.toInt) = some 151; rw [lv_osw (a := 40) (k := 40) h40 rfl, lv_osw (a := 41) (k := 41) h41 rfl, lv_osw (a := 42) (k := 42) h42 rfl, lv_osw (a := 43) (k := 43) h43 rfl, lv_osw (a := 45) (k := 45) h45 rfl, lv_osw (a := 47) (k := 47) h47 rfl, lv_osw (a := 60) (k := 60) h60 rfl, lv_osw (a := 61) (k := 61) h61 rfl, lv_osw (a := 62) (k := 62) h62 rfl, lv_osw (a := 91) (k := 91) h91 rfl, lv_osw (a := 93) (k := 93) h93 rfl, Op.lookupswitch.offset_nil]; decide +kernel) ?_
  refine b_36_151 _ _ _ ?_
  exact K
end
