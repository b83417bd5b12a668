/-! the second object: end, against the abstract state -/
def mg_e0 (b : mg_A) : mr_E := (b.P 0 531 0, b.L 0 531 0, b.L 1 531, b.L 2 531, b.L 3 531, b.P 4 531, b.P 5 531)
def mg_bk (b : mg_A) (X : Nat → Int32) (Y : Nat → Int64) (I : Nat → Nat → Int32) (J : Nat → Nat → Int64) (e : mr_E) : mg_A := (va_up I 505 X, va_up J 505 Y, mh_v (mh_v (mh_v b.P 0 531 (fun _ => e.1)) 4 531 e.2.2.2.2.2.1) 5 531 e.2.2.2.2.2.2, mh_v (mh_v (mh_v (mh_v b.L 0 531 (fun _ => e.2.1)) 1 531 e.2.2.1) 2 531 e.2.2.2.1) 3 531 e.2.2.2.2.1, b.s, b.B, b.D)
theorem mg_ai_l : ∀ q ∈ mr_ai, (505 < q.1 ∧ q.1 < 575) ∧ mg_l.getD (q.1 - 505) (5, 0, 0) = (0, q.2, 0) := by decide +kernel
theorem mg_al_l : ∀ q ∈ mr_al, (505 < q.1 ∧ q.1 < 575) ∧ mg_l.getD (q.1 - 505) (5, 0, 0) = (3, q.2, 0) := by decide +kernel
theorem mg_all : ∀ q : Fin 70, q.1 = 0 ∨ q.1 = 3 ∨ q.1 = 63 ∨ q.1 = 69 ∨ (26 ≤ q.1 ∧ q.1 < 32) ∨ (32 ≤ q.1 ∧ q.1 < 38) ∨ (505 + q.1, (mg_l.getD q.1 (5, 0, 0)).2.1) ∈ mr_ai ∨ (505 + q.1, (mg_l.getD q.1 (5, 0, 0)).2.1) ∈ mr_al := by decide +kernel
section
variable {d e n sl q p k : Nat} {b b' : mg_A} {f0 f' : Nat → mi_C} {X : Nat → Int32} {Y : Nat → Int64} {I : Nat → Nat → Int32} {J : Nat → Nat → Int64} {ee : mr_E}
theorem hd_mB : mr_B (hd b f0) (b.I 505) (b.J 505) b.s b.I b.J := by
  refine ⟨hd_9, fun q hq => ?_, fun q hq => ?_⟩
  · obtain ⟨h1, h2⟩ := mg_ai_l q hq
    exact hd_I (by omega) ((mg_tl h1.2).trans h2)
  · obtain ⟨h1, h2⟩ := mg_al_l q hq
    exact hd_J (by omega) ((mg_tl h1.2).trans h2)
theorem hd_mS (h : gFl b 531) : mr_Sv (hd b f0) 531 (mg_e0 b) := ⟨hd_8 mg_o531, hd_L1 mg_o531, hd_L2 mg_o531, hd_L3 mg_o531, hd_P4 mg_o531, hd_P5 mg_o531, fun j => (h j).1, fun j => (h j).2⟩
theorem bk_P (hq : ¬ q = 531) : (mg_bk b X Y I J ee).P k q = b.P k q := by
  show mh_v (mh_v (mh_v b.P 0 531 _) 4 531 _) 5 531 _ k q = _
  rw [mh_v_p hq, mh_v_p hq, mh_v_p hq]
theorem bk_L (hq : ¬ q = 531) : (mg_bk b X Y I J ee).L k q = b.L k q := by
  show mh_v (mh_v (mh_v (mh_v b.L 0 531 _) 1 531 _) 2 531 _) 3 531 _ k q = _
  rw [mh_v_p hq, mh_v_p hq, mh_v_p hq, mh_v_p hq]
theorem bk_P0 : (mg_bk b X Y I J ee).P 0 531 0 = ee.1 := rfl
theorem bk_P4 : (mg_bk b X Y I J ee).P 4 531 = ee.2.2.2.2.2.1 := rfl
theorem bk_P5 : (mg_bk b X Y I J ee).P 5 531 = ee.2.2.2.2.2.2 := rfl
theorem bk_L0 : (mg_bk b X Y I J ee).L 0 531 0 = ee.2.1 := rfl
theorem bk_L1 : (mg_bk b X Y I J ee).L 1 531 = ee.2.2.1 := rfl
theorem bk_L2 : (mg_bk b X Y I J ee).L 2 531 = ee.2.2.2.1 := rfl
theorem bk_L3 : (mg_bk b X Y I J ee).L 3 531 = ee.2.2.2.2.1 := rfl
theorem bk_I (hq : ¬ q = 505) : (mg_bk b X Y I J ee).I q = I q := va_ne hq
theorem bk_J (hq : ¬ q = 505) : (mg_bk b X Y I J ee).J q = J q := va_ne hq
theorem bk_X : (mg_bk b X Y I J ee).I 505 = X := va_eq (f := I) (k := 505) (v := X)
theorem bk_Y : (mg_bk b X Y I J ee).J 505 = Y := va_eq (f := J) (k := 505) (v := Y)
theorem mg_dk : (mg_d k).1 = 8 ∨ (mg_d k).1 = 7 ∨ (mg_d k).1 = 4 ∨ (mg_d k).1 = 5 := by
  unfold mg_d
  split <;> decide
theorem bk_hi (hq : 575 ≤ q) : hd (mg_bk b X Y I J ee) f0 q = hd b f0 q := by
  unfold hd
  rw [if_neg (by omega), if_neg (by omega)]
  show mg_c (mg_bk b X Y I J ee) f0 q (mg_t b.D q) = mg_c b f0 q (mg_t b.D q)
  have h7 := mg_t7 (D := b.D) (q := q) (by omega)
  rw [mg_th (by omega)] at h7 ⊢
  have hk := mg_dk (k := b.D q)
  generalize mg_d (b.D q) = T at *
  obtain ⟨kd, len, k'⟩ := T
  dsimp only at h7 hk
  unfold mg_c
  dsimp only
  rcases hk with rfl | rfl | rfl | rfl
  · rw [if_neg (by decide), if_pos rfl, if_neg (by decide), if_pos rfl]
    unfold mg_f
    rw [bk_P (by omega), bk_L (by omega)]
  · have := h7 (Or.inl rfl)
    rw [if_neg (by decide), if_neg (by decide), if_pos rfl, if_neg (by decide), if_neg (by decide), if_pos rfl, bk_L (by omega)]
  · have := h7 (Or.inr rfl)
    rw [if_neg (by decide), if_neg (by decide), if_neg (by decide), if_pos rfl, if_neg (by decide), if_neg (by decide), if_neg (by decide), if_pos rfl, bk_P (by omega)]
  · rfl
theorem hd_bk (hB : mr_B f' X Y b.s I J) (hS : mr_Sv f' 531 ee) (hf : ∀ q, (q < 505 ∨ q = 508 ∨ (537 ≤ q ∧ q < 543) ∨ 574 ≤ q ∨ q = 568) → f' q = hd b f0 q) : f' = hd (mg_bk b X Y I J ee) f0 := by
  funext q
  by_cases h5 : q < 505
  · rw [hf q (by omega), hd_lo h5, hd_lo h5]
  by_cases h7 : 575 ≤ q
  · rw [hf q (by omega), bk_hi h7]
  have o1 : mg_o (mg_bk b X Y I J ee).D 531 := mg_o531
  have o2 : mg_o (mg_bk b X Y I J ee).D 537 := mg_o537
  have o3 : mg_o b.D 537 := mg_o537
  have eP : ∀ k, (mg_bk b X Y I J ee).P k 537 = b.P k 537 := fun k => bk_P (by decide)
  have eL : ∀ k, (mg_bk b X Y I J ee).L k 537 = b.L k 537 := fun k => bk_L (by decide)
  rcases mg_all ⟨q - 505, by omega⟩ with h | h | h | h | h | h | h | h
  · have h : q - 505 = 0 := h
    obtain rfl : q = 505 := by omega
    rw [hd_9, bk_X, bk_Y]
    exact hB.1
  · have h : q - 505 = 3 := h
    obtain rfl : q = 508 := by omega
    rw [hf 508 (by omega), hd_5 (by decide) rfl, hd_5 (by decide) rfl]
  · have h : q - 505 = 63 := h
    obtain rfl : q = 568 := by omega
    rw [hf 568 (by omega), hd_B, hd_B]
    rfl
  · have h : q - 505 = 69 := h
    obtain rfl : q = 574 := by omega
    rw [hf 574 (by omega), hd_5 (by decide) rfl, hd_5 (by decide) rfl]
  · have h : 26 ≤ q - 505 ∧ q - 505 < 32 := h
    rcases (by omega : q = 531 ∨ q = 532 ∨ q = 533 ∨ q = 534 ∨ q = 535 ∨ q = 536) with rfl | rfl | rfl | rfl | rfl | rfl
    · rw [hd_8 o1]
      exact hS.1
    · rw [hd_L1 o1, bk_L1]
      exact hS.2.1
    · rw [hd_L2 o1, bk_L2]
      exact hS.2.2.1
    · rw [hd_L3 o1, bk_L3]
      exact hS.2.2.2.1
    · rw [hd_P4 o1, bk_P4]
      exact hS.2.2.2.2.1
    · rw [hd_P5 o1, bk_P5]
      exact hS.2.2.2.2.2.1
  · have h : 32 ≤ q - 505 ∧ q - 505 < 38 := h
    rw [hf q (by omega)]
    rcases (by omega : q = 537 ∨ q = 538 ∨ q = 539 ∨ q = 540 ∨ q = 541 ∨ q = 542) with rfl | rfl | rfl | rfl | rfl | rfl
    · rw [hd_8 o2, hd_8 o3]
      unfold mg_f
      rw [eP, eL]
    · rw [hd_L1 o2, hd_L1 o3, eL]
    · rw [hd_L2 o2, hd_L2 o3, eL]
    · rw [hd_L3 o2, hd_L3 o3, eL]
    · rw [hd_P4 o2, hd_P4 o3, eP]
    · rw [hd_P5 o2, hd_P5 o3, eP]
  · have e5 : 505 + (q - 505) = q := by omega
    rw [show (505 + ((⟨q - 505, by omega⟩ : Fin 70) : Nat)) = q from e5] at h
    obtain ⟨h1, h2⟩ := mg_ai_l _ h
    rw [hB.2.1 _ h, hd_I (by omega) ((mg_tl h1.2).trans h2), bk_I (by omega)]
  · have e5 : 505 + (q - 505) = q := by omega
    rw [show (505 + ((⟨q - 505, by omega⟩ : Fin 70) : Nat)) = q from e5] at h
    obtain ⟨h1, h2⟩ := mg_al_l _ h
    rw [hB.2.2 _ h, hd_J (by omega) ((mg_tl h1.2).trans h2), bk_J (by omega)]
end
