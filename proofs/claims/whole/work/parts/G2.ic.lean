/-! the beginning, as both objects' state -/
theorem mp_k1 : ∃ f, mp_r1 = some (.inl none, 505, 29074, f) := mp_io_ok (mp_at (k := 0) rfl)
theorem mp_k2 : ∃ f, mp_r2 = some (.inl none, 574, 101208, f) := mp_io_ok (mp_at (k := 1) rfl)
theorem mp_c2 {q : Nat} (hq : q < 505) : mp_sc mp_f1 q = true := mp_rg (p := fun q => mp_sc mp_f1 q) (mp_at (k := 2) rfl) hq
theorem mp_c3 {q : Nat} (hq : q < 70) : mp_sg mp_f1 (505 + q) = true := mp_rg (p := fun q => mp_sg mp_f1 (505 + q)) (mp_at (k := 3) rfl) hq
theorem mp_c4 : (mh_ab mp_f1).I 1 1 1 = 0 ∧ (mh_ab mp_f1).I 3 15 6 = -1 ∧ (mh_ab mp_f1).I 6 35 5 = 0 ∧ (mh_ab mp_f1).I 8 42 6 = 0 ∧ (mh_ab mp_f1).I 8 42 7 = 0 ∧ (mh_ab mp_f1).I 11 54 10 = 0 ∧ (mh_ab mp_f1).I 11 54 11 = 0 ∧ (mh_ab mp_f1).I 0 0 9 = 0 := of_decide_eq_true (mp_at (k := 4) rfl)
theorem mp_c5 {j : Nat} (hj : j < 32) : (mh_ab mp_f1).AL 5 32 0 j = 0 := of_decide_eq_true (mp_rg (p := fun j => decide ((mh_ab mp_f1).AL 5 32 0 j = 0)) (mp_at (k := 5) rfl) hj)
theorem mp_c6 : (mg_ab mp_f1).I 505 1 = 0 ∧ (mg_ab mp_f1).I 505 3 = -1 ∧ (mg_ab mp_f1).I 505 4 = -1 ∧ (mg_ab mp_f1).I 505 59 = 0 ∧ (mg_ab mp_f1).I 505 65 = 0 ∧ (mg_ab mp_f1).I 505 66 = 0 ∧ (mg_ab mp_f1).I 505 73 = 0 ∧ (mg_ab mp_f1).I 505 75 = 0 := of_decide_eq_true (mp_at (k := 6) rfl)
theorem mp_c7 {j : Nat} (hj : j < 32) : (mg_ab mp_f1).J 550 j = 0 := of_decide_eq_true (mp_rg (p := fun j => decide ((mg_ab mp_f1).J 550 j = 0)) (mp_at (k := 7) rfl) hj)
theorem mp_c8 {j : Nat} (hj : j < 8) : (mg_ab mp_f1).P 4 531 j = 0 ∧ (mg_ab mp_f1).P 5 531 j = 0 := of_decide_eq_true (mp_rg (p := fun j => decide ((mg_ab mp_f1).P 4 531 j = 0 ∧ (mg_ab mp_f1).P 5 531 j = 0)) (mp_at (k := 8) rfl) hj)
theorem mp_c9 {j : Nat} (hj : j < 2000) : (mg_ab mp_f1).B j = none := of_decide_eq_true (mp_rg (p := fun j => decide ((mg_ab mp_f1).B j = none)) (mp_at (k := 9) rfl) hj)
theorem mp_c10 : mp_f1 61 = .inl (4, 104, .inr (.inr (.inr (.inr (mp_gr mp_f1 61))))) := mp_ar_ok (mp_at (k := 10) rfl)
theorem mp_c11 {j : Nat} (hj : j < 104) : mp_gr mp_f1 61 j = some (80 + 4 * j) := of_decide_eq_true (mp_rg (p := fun j => decide (mp_gr mp_f1 61 j = some (80 + 4 * j))) (mp_at (k := 11) rfl) hj)
theorem mp_c12 : mp_f1 508 = .inl (5, 24, .inr (.inr (.inr (.inr (mp_gr mp_f1 508))))) := mp_ar_ok (mp_at (k := 12) rfl)
theorem mp_c13 {j : Nat} (hj : j < 24) : mp_gr mp_f1 508 j = some (mi_SC + 1 + 2 * (16 + j)) := of_decide_eq_true (mp_rg (p := fun j => decide (mp_gr mp_f1 508 j = some (mi_SC + 1 + 2 * (16 + j)))) (mp_at (k := 13) rfl) hj)
theorem mp_c14 {c : Nat} (hc : c < mt_ns) : ∃ fs, mp_f1 (mi_SC + 1 + 2 * c) = .inr (17, fs) := mp_st_ok (mp_rg (p := fun c => mp_st mp_f1 (mi_SC + 1 + 2 * c)) (mp_at (k := 14) rfl) hc)
theorem mp_c15 : mp_f1 535 = .inl (2, 8, .inl (mp_gi mp_f1 535)) := mp_ai_ok (mp_at (k := 15) rfl)
theorem mp_c16 : mp_f1 536 = .inl (2, 8, .inl (mp_gi mp_f1 536)) := mp_ai_ok (mp_at (k := 16) rfl)
theorem mp_c17 : mp_f1 568 = .inl (6, 2000, .inr (.inr (.inr (.inr (mp_gr mp_f1 568))))) := mp_ar_ok (mp_at (k := 17) rfl)
theorem mp_e1 : mp_r1 = some (.inl none, mp_hh mp_r1) ∧ mp_hh mp_r1 = (505, 29074, (mp_hh mp_r1).2.2) := mp_get mp_k1
theorem mp_e2 : mp_r2 = some (.inl none, mp_hh mp_r2) ∧ mp_hh mp_r2 = (574, 101208, (mp_hh mp_r2).2.2) := mp_get mp_k2
theorem mp_scn : mi_SC = 1099511627776 := rfl
theorem mp_z0 : mi_zh mp_h0 := by
  intro q
  show mi_za (va_up mp_f0 0 (.inr (0, mt_df 0)) q)
  by_cases e : q = 0
  · rw [e, va_eq]
    exact mi_za_o
  · rw [va_ne e]
    unfold mp_f0
    by_cases e2 : q = mi_SC
    · rw [e2, va_eq]
      exact mi_za_o
    · rw [va_ne e2]
      unfold mi_fo
      rw [if_neg e2]
      split
      · exact mi_za_o
      · exact mi_za_i (by decide)
theorem mp_z2 : mi_zh (mp_hh mp_r2) := by
  have h1 : mi_zh (mp_hh mp_r1) := mi_x_z _ _ _ _ _ _ _ _ _ mp_z0 mp_e1.1
  have h1n : mi_zh mp_h1n := h1.up mi_za_o
  exact mi_x_z _ _ _ _ _ _ _ _ _ h1n mp_e2.1
theorem mp_z3 (q : Nat) : mi_za (mp_f1 q) := mp_z2 q
theorem mp_fl4 : gFl (mg_ab mp_f1) 531 := by
  intro j
  have e4 : (mg_ab mp_f1).P 4 531 = mp_gi mp_f1 535 := mg_ab_P (by decide)
  have e5 : (mg_ab mp_f1).P 5 531 = mp_gi mp_f1 536 := mg_ab_P (by decide)
  by_cases hj : j < 8
  · exact ⟨Or.inl (mp_c8 hj).1, Or.inl (mp_c8 hj).2⟩
  · rw [e4, e5]
    exact ⟨Or.inl ((mp_z3 535).1 8 _ mp_c15 j (by omega)), Or.inl ((mp_z3 536).1 8 _ mp_c16 j (by omega))⟩
theorem mg_ab_B {f : Nat → mi_C} : (mg_ab f).B = mp_gr f 568 := rfl
theorem mp_bn (j : Nat) : (mg_ab mp_f1).B j = none := by
  by_cases hj : j < 2000
  · exact mp_c9 hj
  · rw [mg_ab_B]
    have h := (mp_z3 568).2 6 2000 (mp_gr mp_f1 568) mp_c17 j
    exact h (by omega)
section
variable {F : Nat → mi_C} {c : mi_C}
theorem mp_F (hF : F = va_up (va_up mp_f1 574 (.inl (3, 1, .inr (.inl (fun _ => 0))))) mi_SC c) {q : Nat} (h1 : ¬ q = 574) (h2 : ¬ q = mi_SC) : F q = mp_f1 q := by
  rw [hF, va_ne h2, va_ne h1]
theorem mp_start (hF : F = va_up (va_up mp_f1 574 (.inl (3, 1, .inr (.inl (fun _ => 0))))) mi_SC c) : F = hc (mh_ab mp_f1) (hd (mg_ab mp_f1) F) := by
  have esc := mp_scn
  funext q
  by_cases h5 : q < 505
  · have e := mp_F hF (q := q) (by omega) (by omega)
    unfold hc
    rw [if_pos h5, e]
    exact mp_sc_ok (mp_c2 h5) (by rw [hd_lo h5]; exact e)
  · rw [hc_far (by omega)]
    by_cases h7 : q < 574
    · have e := mp_F hF (q := q) (by omega) (by omega)
      unfold hd
      rw [if_neg h5, e]
      have h3 := mp_c3 (q := q - 505) (by omega)
      rw [show 505 + (q - 505) = q by omega] at h3
      exact mp_sg_ok h3 (by omega) (fun _ => e)
    · refine (hd_5 (by omega) ?_).symm
      by_cases h8 : q = 574
      · subst h8
        rfl
      · rw [mg_th (by omega)]
        show mg_d (if q = 0 then mi_NC else if q = 1 then mi_NS else 0) = _
        rw [if_neg (by omega), if_neg (by omega)]
        rfl
end
theorem mp_cX {oc : Nat → Int32} {ins : Nat → mv_I} : cX (mh_ab mp_f1) 0 oc (-1) (fun _ => 0) 0 ins (mv_z0 mx_S0 (fun _ => 0)) (0, 0, []) none := by
  obtain ⟨h1, h2, h3, h4, h5, h6, h7, h8⟩ := mp_c4
  exact ⟨⟨h1, Nat.zero_le _, fun k hk => absurd hk (Nat.not_lt_zero k)⟩, h2, fun j hj => mp_c5 hj, ⟨h3, Nat.zero_le _, fun k hk => absurd hk (Nat.not_lt_zero k)⟩, cEv.z0 h4 h5, ⟨h6, fun _ => h7, fun q => absurd q (show ¬ (0 : Nat) = 1 by decide), (show (0 : Nat) ≤ 2 by decide), (show (0 : Nat) ≤ 5001 by decide)⟩, h8⟩
theorem mp_gX {oc : Nat → Int32} {ins : Nat → mv_I} : gX 0 575 101209 (mg_ab mp_f1) 0 oc (-1) (fun _ => 0) 0 ins (mv_z0 mx_S0 (fun _ => 0)) (0, 0, []) none := by
  obtain ⟨h1, h2, h3, h4, h5, h6, h7, h8⟩ := mp_c6
  refine ⟨⟨h1, Nat.zero_le _, fun k hk => absurd hk (Nat.not_lt_zero k)⟩, h2, fun j hj => mp_c7 hj, ⟨h4, Nat.zero_le _, fun k hk => absurd hk (Nat.not_lt_zero k)⟩, gTo.z0 h5 h6, ⟨h7, fun _ => h8, fun q => absurd q (show ¬ (0 : Nat) = 1 by decide), (show (0 : Nat) ≤ 2 by decide), (show (0 : Nat) ≤ 5001 by decide)⟩, h3, ⟨0, fun _ => 0, ⟨fun i hi => absurd hi (Nat.not_lt_zero i), fun i _ => mp_bn i, fun i _ hi => absurd hi (Nat.not_lt_zero i), fun q hq => ?_, by decide, ⟨?_, Nat.le_refl _⟩, ⟨?_, Nat.le_refl _⟩, Nat.le_refl _⟩, rfl, rfl, by decide, by decide, by decide⟩, mp_fl4⟩
  · show (if q = 0 then mi_NC else if q = 1 then mi_NS else 0) = 0
    rw [if_neg (by omega), if_neg (by omega)]
  · show 575 + 6 * (104 - 0) ≤ mi_NC
    decide
  · show 101209 + 71 * (104 - 0) ≤ mi_NS
    decide
