/-! the first object: a transaction of the analyser ends -/
section
variable {d e n sl N : Nat} {a : mh_A} {f0 : Nat → mi_C} {Q : (Option Value ⊕ Nat) → mi_H → Prop} {q qq ip : Nat} {tb : Nat → ms_N} {lo hi v w : Int64} {s : Except Nat mv_Z} {l6 : Int32}
theorem cm_t67 (hn : 575 ≤ n) (hs : cOut a 67 q N tb lo hi s) (Ke : ∀ x a', s = .error x → 1 ≤ x ∧ x ≤ 7 → cMf 67 q a a' → a'.I 8 68 6 = 0 → a'.I 8 68 7 = 0 → Q (.inl (some (.int (Int32.ofNat x)))) (n, sl, hc a' f0)) (Kok : ∀ Z', s = .ok Z' → cM a 67 q N tb lo hi Z' → mv_ok Z'.S → mz_ok tb N 100 0 Z'.S.at → Q (.inl (some (.int 0))) (n, sl, hc a f0)) : mi_W (e + 1) 74 133 [some (.ref 67), some (.ref qq), some (.ref ip), some (.long v), none, some (.long w), none, some (.int l6)] [] (n, sl, hc a f0) Q := by
  have hpo : mh_o 67 7 := ⟨by decide, rfl⟩
  rcases hs with ⟨hel, hfl, Z, rfl, h, hS, hok⟩ | ⟨x, rfl, hx, h1, h7⟩
  · skip
    refine b_74_133 _ _ _ (by first | (exact hc_o (by first | assumption | (exact ⟨by decide, rfl⟩))) | assumption | (exact (hc_far (by omega)).trans (by assumption))) (by omega) (by first | rfl | assumption) ?_ ?_
    · intro z133
      exact absurd hel z133
    · intro z133
      refine b_74_140 _ _ _ (by first | (exact hc_o (by first | assumption | (exact ⟨by decide, rfl⟩))) | assumption | (exact (hc_far (by omega)).trans (by assumption))) (by omega) (by first | rfl | assumption) ?_ ?_ (by first | assumption | (exact mL_get (by decide)) | (rw [mL_len]; decide) | (simp only [mL_set]; exact mL_get (by decide)) | (simp only [mL_set, mL_len]; decide) | (exact va_eq) | (exact (va_ne (by omega)).trans (by assumption)) | (exact (va_ne (by omega)).trans va_eq) | (exact (va_ne (by omega)).trans ((va_ne (by omega)).trans (by assumption))) | (exact (va_ne (by omega)).trans ((va_ne (by omega)).trans ((va_ne (by omega)).trans (by assumption)))) | rfl | (exact Or.inl rfl) | (exact Or.inr rfl) | omega | (exact Nat.le_of_ble_eq_true rfl) | decide | (exact ⟨by decide, rfl, by decide⟩))
      · intro z140
        refine b_74_167 _ _ _ (by first | (exact hc_o (by first | assumption | (exact ⟨by decide, rfl⟩))) | assumption | (exact (hc_far (by omega)).trans (by assumption))) (by omega) (by first | rfl | assumption) ?_ ?_
        · intro z167
          refine b_74_181 _ _ _ (by first | (exact hc_o (by first | assumption | (exact ⟨by decide, rfl⟩))) | assumption | (exact (hc_far (by omega)).trans (by assumption))) (by omega) (by first | rfl | assumption) ?_
          rw [hel]
          exact Kok Z rfl h hS hok
        · intro z167
          exact absurd hel z167
      · intro z140
        intro hw0
        exact absurd hw0 (by simp)
  · skip
    refine b_74_133 _ _ _ (by first | (exact hc_o (by first | assumption | (exact ⟨by decide, rfl⟩))) | assumption | (exact (hc_far (by omega)).trans (by assumption))) (by omega) (by first | rfl | assumption) ?_ ?_
    · intro z133
      refine cm_167 hn (Or.inr rfl) hpo (by rw [hx]; exact of_17 h1 h7) ?_
      rw [hx]
      exact Ke x _ rfl ⟨h1, h7⟩ ((cMf.re.sI (Or.inr (Or.inl ⟨rfl, rfl⟩))).sI (Or.inr (Or.inl ⟨rfl, rfl⟩))) rfl rfl
    · intro z133
      exact absurd (hx.symm.trans (Classical.not_not.mp z133)) (of_17 h1 h7)
end
