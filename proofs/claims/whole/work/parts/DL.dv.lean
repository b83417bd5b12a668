/-! the first object: a transaction begins -/
/-- what a transaction leaves as it is, from its very beginning -/
def cMe (p q : Nat) (a a' : mh_A) : Prop := (∀ c r, ¬ (c = 7 ∧ r = p) → ¬ (c = 10 ∧ r = p + 12) → a'.R c r = a.R c r) ∧ ∀ c r k, ¬ (c = 9 ∧ r = q) → ¬ (c = 8 ∧ r = p + 1) → ¬ (c = 5 ∧ k = 1) → ¬ (c = 10 ∧ r = p + 12) → ¬ (c = 7 ∧ r = p) → a'.I c r k = a.I c r k ∧ a'.L c r k = a.L c r k ∧ a'.AI c r k = a.AI c r k ∧ a'.AL c r k = a.AL c r k
/-- a machine that waits for a transaction on a state -/
def cM0 (a : mh_A) (p q N : Nat) (tb : Nat → ms_N) (Z : mv_Z) : Prop := (mh_o p 7 ∧ mh_o (p + 1) 8 ∧ mh_o (p + 12) 10 ∧ (p = 41 ∨ p = 67)) ∧ ((a.I 2 3 11 = Int32.ofNat N ∧ N ≤ 800) ∧ crg 0 N a tb ∧ mv_tok tb) ∧ cSt a q Z.S ∧ cEv a (p + 1) Z ∧ (p = 41 → ∀ j, j < 32 → a.AL 5 32 0 j = Z.lf j)
def cEn (a : mh_A) (p q : Nat) (lo hi : Int64) : mh_A := (((((((a.sR 7 p q).sL 7 p 4 lo).sL 7 p 5 hi).sL 9 q 1 lo).sR 10 (p + 12) q).sL 10 (p + 12) 2 lo).sL 10 (p + 12) 3 hi).sI 10 (p + 12) 4 0
section
variable {d e n sl N : Nat} {a : mh_A} {f0 : Nat → mi_C} {Q : (Option Value ⊕ Nat) → mi_H → Prop} {Z : mv_Z} {p q : Nat} {tb : Nat → ms_N} {lo hi : Int64}
theorem cEn_M (h : cM0 a p q N tb Z) (hl : p = 41 → ∀ j, j < 32 → (cEn a p q lo hi).AL 5 32 1 j = Z.lf j) : cM (cEn a p q lo hi) p q N tb lo hi (Z.ti lo) := by
  obtain ⟨h1, h3, hs, he, hw⟩ := h
  refine ⟨h1, ⟨?_, ?_, ?_, ?_, ?_, ?_⟩, h3, ⟨hs.1, hs.2.1, ?_, hs.2.2.2⟩, he, hl⟩
  · show (mh_v (mh_v a.R 7 p q) 10 (p + 12) q) 7 p = q
    simp [mh_v]
  · show (mh_v (mh_v a.R 7 p q) 10 (p + 12) q) 10 (p + 12) = q
    simp [mh_v]
  · show (mh_u (mh_u a.L 7 p 4 lo) 7 p 5 hi) 7 p 4 = lo
    simp [mh_u]
  · show (mh_u (mh_u a.L 7 p 4 lo) 7 p 5 hi) 7 p 5 = hi
    simp [mh_u]
  · show (mh_u (α := Int64) (mh_u _ 10 (p + 12) 2 lo) 10 (p + 12) 3 hi) 10 (p + 12) 2 = lo
    simp [mh_u]
  · show (mh_u (α := Int64) (mh_u _ 10 (p + 12) 2 lo) 10 (p + 12) 3 hi) 10 (p + 12) 3 = hi
    simp [mh_u]
  · show (mh_u (α := Int64) _ 9 q 1 lo) 9 q 1 = lo
    simp [mh_u]
theorem cEn_fl : (cEn a p q lo hi).I 10 (p + 12) 4 = 0 := by
  show mh_u a.I 10 (p + 12) 4 0 10 (p + 12) 4 = 0
  exact mh_u_at
theorem cEn_er : (cEn a p q lo hi).I 7 p 6 = a.I 7 p 6 := rfl
theorem cr_look {x : Nat} (hn : 575 ≤ n) (hp : mh_o p 10) (K : Q (.inl none) (n, sl, hc ((((a.sR 10 p x).sL 10 p 2 lo).sL 10 p 3 hi).sI 10 p 4 0) f0)) : mi_W d 78 0 (mi_en 6 [.ref p, .ref x, .long lo, .long hi]) [] (n, sl, hc a f0) Q := by
  have hp5 := hp.1
  refine b_78_0 _ _ _ (by first | (exact hc_o (by first | assumption | (exact ⟨by decide, rfl⟩))) | assumption | (exact (hc_far (by omega)).trans (by assumption))) (by omega) (Nat.le_of_ble_eq_true rfl) (by first | (exact (congrFun (hw_R (by first | assumption | (exact ⟨by decide, rfl⟩)) (by decide)) _).trans (hc_o (by first | assumption | (exact ⟨by decide, rfl⟩)))) | assumption | (exact (hc_far (by omega)).trans (by assumption))) (by omega) (Nat.le_of_ble_eq_true rfl) (by first | (exact (congrFun (hw_2 (hw_R (by first | assumption | (exact ⟨by decide, rfl⟩)) (by decide)) (hw_L (by first | assumption | (exact ⟨by decide, rfl⟩)) (by decide))) _).trans (hc_o (by first | assumption | (exact ⟨by decide, rfl⟩)))) | assumption | (exact (hc_far (by omega)).trans (by assumption))) (by omega) (Nat.le_of_ble_eq_true rfl) (by first | (exact (congrFun (hw_2 (hw_2 (hw_R (by first | assumption | (exact ⟨by decide, rfl⟩)) (by decide)) (hw_L (by first | assumption | (exact ⟨by decide, rfl⟩)) (by decide))) (hw_L (by first | assumption | (exact ⟨by decide, rfl⟩)) (by decide))) _).trans (hc_o (by first | assumption | (exact ⟨by decide, rfl⟩)))) | assumption | (exact (hc_far (by omega)).trans (by assumption))) (by omega) (Nat.le_of_ble_eq_true rfl) (by first | assumption | (exact mL_get (by decide)) | (rw [mL_len]; decide) | (simp only [mL_set]; exact mL_get (by decide)) | (simp only [mL_set, mL_len]; decide) | (exact va_eq) | (exact (va_ne (by omega)).trans (by assumption)) | (exact (va_ne (by omega)).trans va_eq) | (exact (va_ne (by omega)).trans ((va_ne (by omega)).trans (by assumption))) | (exact (va_ne (by omega)).trans ((va_ne (by omega)).trans ((va_ne (by omega)).trans (by assumption)))) | rfl | (exact Or.inl rfl) | (exact Or.inr rfl) | omega | (exact Nat.le_of_ble_eq_true rfl) | decide | (exact ⟨by decide, rfl, by decide⟩)) ?_
  refine hw_Q (hw_2 (hw_2 (hw_2 (hw_R (by first | assumption | (exact ⟨by decide, rfl⟩)) (by decide)) (hw_L (by first | assumption | (exact ⟨by decide, rfl⟩)) (by decide))) (hw_L (by first | assumption | (exact ⟨by decide, rfl⟩)) (by decide))) (hw_I (by first | assumption | (exact ⟨by decide, rfl⟩)) (by decide))) ?_
  exact K
end
