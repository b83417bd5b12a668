/-- a new state at the place p -/
theorem sb_stnew {d p sl : Nat} {f : Nat → mi_C} {Q : (Option Value ⊕ Nat) → mi_H → Prop} (hNC : p + 6 ≤ mi_NC) (hNS : sl + 64 ≤ mi_NS) (h0 : f p = .inr (13, mt_df 13)) (K : ∀ f' e', mr_Sv f' p e' → (∀ z, z < p ∨ p + 5 < z → f' z = f z) → Q (.inl none) (p + 6, sl + 64, f')) : mi_W d 137 0 (mi_en 1 [.ref p]) [] (p + 1, sl, f) Q := by
  refine b_137_0 _ _ _ (m2 := 32) (m9 := 8) (m16 := 8) (by decide) ⟨by omega, by omega⟩ ((va_ne (by omega)).trans h0) (by omega) (by decide) (by decide) ⟨by omega, by omega⟩ ((va_ne (by omega)).trans va_eq) (by omega) (Nat.le_of_ble_eq_true rfl) (by decide) ⟨by omega, by omega⟩ ((va_ne (by omega)).trans va_eq) (by omega) (Nat.le_of_ble_eq_true rfl) ?_
  refine b_137_28 _ _ _ (m2 := 8) (m9 := 8) (by decide) ⟨by omega, by omega⟩ ((va_ne (by omega)).trans va_eq) (by omega) (Nat.le_of_ble_eq_true rfl) (by decide) ⟨by omega, by omega⟩ ((va_ne (by omega)).trans va_eq) (by omega) (Nat.le_of_ble_eq_true rfl) ?_
  refine K _ (0, 0, fun _ => 0, fun _ => 0, fun _ => 0, fun _ => 0, fun _ => 0) ⟨va_eq, ?_, ?_, ?_, ?_, ?_, fun _ => Or.inl rfl, fun _ => Or.inl rfl⟩ (fun z hz => ?_)
  · rw [va_ne (by omega), va_ne (by omega), va_ne (by omega), va_ne (by omega), va_ne (by omega), va_ne (by omega), va_ne (by omega), va_ne (by omega), va_ne (by omega), va_eq]
  · rw [va_ne (by omega), va_ne (by omega), va_ne (by omega), va_ne (by omega), va_ne (by omega), va_ne (by omega), va_ne (by omega)]
    exact va_eq
  · rw [va_ne (by omega), va_ne (by omega), va_ne (by omega), va_ne (by omega), va_ne (by omega)]
    exact va_eq
  · rw [va_ne (by omega), va_ne (by omega), va_ne (by omega)]
    exact va_eq
  · rw [va_ne (by omega)]
    exact va_eq
  · rw [va_ne (by omega), va_ne (by omega), va_ne (by omega), va_ne (by omega), va_ne (by omega), va_ne (by omega), va_ne (by omega), va_ne (by omega), va_ne (by omega), va_ne (by omega)]
