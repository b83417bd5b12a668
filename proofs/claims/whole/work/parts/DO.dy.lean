/-! the first object: a transaction ends -/
section
variable {d e n sl N : Nat} {a : mh_A} {f0 : Nat → mi_C} {Q : (Option Value ⊕ Nat) → mi_H → Prop} {p q qq ip : Nat} {tb : Nat → ms_N} {lo hi v w : Int64} {s : Except Nat mv_Z} {l6 : Int32}
theorem cm_167 (hn : 575 ≤ n) (hp : p = 41 ∨ p = 67) (hpo : mh_o p 7) (he : ¬ a.I 7 p 6 = 0) (K : Q (.inl (some (.int (a.I 7 p 6)))) (n, sl, hc ((a.sI 8 (p + 1) 6 0).sI 8 (p + 1) 7 0) f0)) : mi_W (e + 1) 74 167 [some (.ref p), some (.ref qq), some (.ref ip), some (.long v), none, some (.long w), none, some (.int l6)] [] (n, sl, hc a f0) Q := by
  have hp5 := hpo.1
  obtain ⟨heo, hp8, -⟩ := ht8 hp
  refine b_74_167 _ _ _ (by first | (exact hc_o (by first | assumption | (exact ⟨by decide, rfl⟩))) | assumption | (exact (hc_far (by omega)).trans (by assumption))) (by omega) (by first | rfl | assumption) ?_ ?_
  · intro z167
    exact absurd z167 he
  · intro z167
    refine b_74_174 _ _ _ (by first | (exact hc_o (by first | assumption | (exact ⟨by decide, rfl⟩))) | assumption | (exact (hc_far (by omega)).trans (by assumption))) (by omega) (by first | rfl | assumption) (by first | (exact hc_o (by first | assumption | (exact ⟨by decide, rfl⟩))) | assumption | (exact (hc_far (by omega)).trans (by assumption))) (by omega) ?_
    refine ce_clear hn hp ?_
    refine b_74_181 _ _ _ (by first | (exact hc_o (by first | assumption | (exact ⟨by decide, rfl⟩))) | assumption | (exact (hc_far (by omega)).trans (by assumption))) (by omega) (by first | rfl | assumption) ?_
    exact K
theorem cm_t41 (hn : 575 ≤ n) (hs : cOut a 41 q N tb lo hi s) (hpp : ∀ Z', s = .ok Z' → ∀ i, i < Z'.ps.1 → (Z'.ps.2 i).2.1 < 8 ∧ (Z'.ps.2 i).2.2.1 < 4) (Ke : ∀ x a', (s = .error x ∨ (x = 6 ∧ ∃ Z', s = .ok Z' ∧ mv_set Z'.ps.2 Z'.ps.1 0 Z'.lf = none)) → cMf 41 q a a' → a'.I 8 42 6 = 0 → a'.I 8 42 7 = 0 → Q (.inl (some (.int (Int32.ofNat x)))) (n, sl, hc a' f0)) (Kok : ∀ Z' g h w', s = .ok Z' → mv_set Z'.ps.2 Z'.ps.1 0 Z'.lf = some w' → cM a 41 q N tb lo hi Z' → (∀ j, j < 32 → h j = w' j) → Q (.inl (some (.int 0))) (n, sl, hc ((a.sAL 5 32 1 g).sAL 5 32 0 h) f0)) : mi_W (e + 1) 74 133 [some (.ref 41), some (.ref qq), some (.ref ip), some (.long v), none, some (.long w), none, some (.int l6)] [] (n, sl, hc a f0) Q := by
  have hpo : mh_o 41 7 := ⟨by decide, rfl⟩
  rcases hs with ⟨hel, hfl, Z, rfl, h, hS, hok⟩ | ⟨x, rfl, hx, h1, h7⟩
  · skip
    refine b_74_133 _ _ _ (by first | (exact hc_o (by first | assumption | (exact ⟨by decide, rfl⟩))) | assumption | (exact (hc_far (by omega)).trans (by assumption))) (by omega) (by first | rfl | assumption) ?_ ?_
    · intro z133
      exact absurd hel z133
    · intro z133
      refine b_74_140 _ _ _ (by first | (exact hc_o (by first | assumption | (exact ⟨by decide, rfl⟩))) | assumption | (exact (hc_far (by omega)).trans (by assumption))) (by omega) (by first | rfl | assumption) ?_ ?_ (by first | assumption | (exact mL_get (by decide)) | (rw [mL_len]; decide) | (simp only [mL_set]; exact mL_get (by decide)) | (simp only [mL_set, mL_len]; decide) | (exact va_eq) | (exact (va_ne (by omega)).trans (by assumption)) | (exact (va_ne (by omega)).trans va_eq) | (exact (va_ne (by omega)).trans ((va_ne (by omega)).trans (by assumption))) | (exact (va_ne (by omega)).trans ((va_ne (by omega)).trans ((va_ne (by omega)).trans (by assumption)))) | rfl | (exact Or.inl rfl) | (exact Or.inr rfl) | omega | (exact Nat.le_of_ble_eq_true rfl) | decide | (exact ⟨by decide, rfl, by decide⟩))
      · intro z140
        exact absurd z140 (by simp)
      · intro z140
        intro hw0
        refine b_74_147 _ _ _ (by first | (exact hc_o (by first | assumption | (exact ⟨by decide, rfl⟩))) | assumption | (exact (hc_far (by omega)).trans (by assumption))) (by omega) (by first | rfl | assumption) (by first | (exact hc_o (by first | assumption | (exact ⟨by decide, rfl⟩))) | assumption | (exact (hc_far (by omega)).trans (by assumption))) (by omega) (by first | rfl | assumption) (by first | (exact hc_o (by first | assumption | (exact ⟨by decide, rfl⟩))) | assumption | (exact (hc_far (by omega)).trans (by assumption))) (by omega) ?_
        refine cw_settle hn h.2.2.2.2.1 (hpp Z rfl) (h.2.2.2.2.2 rfl) (fun g' hs => ?_) (fun g' h' w' hs hh => ?_)
        · refine b_74_158 _ _ _ ?_ ?_
          · intro z158
            first | (exact absurd z158 (by decide)) | (exact absurd (by decide) z158) | (exact absurd rfl z158) | (exact absurd z158 (of_nn (by omega))) | (exact absurd (of_np (by omega)) z158) | omega
          · intro z158
            refine b_74_161 _ _ _ (by first | (exact hc_o (by first | assumption | (exact ⟨by decide, rfl⟩))) | assumption | (exact (hc_far (by omega)).trans (by assumption))) (by omega) (Nat.le_of_ble_eq_true rfl) ?_
            refine hw_W (hw_I (by first | assumption | (exact ⟨by decide, rfl⟩)) (by decide)) ?_
            first | (refine cm_167 hn (Or.inl rfl) hpo (by rw [I_at]; decide) ?_; exact Ke 6 _ (Or.inr ⟨rfl, Z, rfl, hs⟩) ((((cMf.re.sAL (Or.inr (Or.inr ⟨rfl, rfl⟩))).sI (Or.inr (Or.inr (Or.inr ⟨rfl, rfl, rfl⟩)))).sI (Or.inr (Or.inl ⟨rfl, rfl⟩))).sI (Or.inr (Or.inl ⟨rfl, rfl⟩))) rfl rfl) | skip
            all_goals refine b_74_167 _ _ _ (by first | (exact hc_o (by first | assumption | (exact ⟨by decide, rfl⟩))) | assumption | (exact (hc_far (by omega)).trans (by assumption))) (by omega) (by first | rfl | assumption) ?_ ?_
            all_goals first | (exact fun hne => absurd hel hne) | skip
            all_goals intro _
            all_goals refine b_74_181 _ _ _ (by first | (exact hc_o (by first | assumption | (exact ⟨by decide, rfl⟩))) | assumption | (exact (hc_far (by omega)).trans (by assumption))) (by omega) (by first | rfl | assumption) ?_
            all_goals rw [show ((a.sAL 5 32 1 g').sAL 5 32 0 h').I 7 41 6 = 0 from hel]
            all_goals exact Kok Z g' h' w' rfl hs h hh
        · refine b_74_158 _ _ _ ?_ ?_
          · intro z158
            first | (refine cm_167 hn (Or.inl rfl) hpo (by rw [I_at]; decide) ?_; exact Ke 6 _ (Or.inr ⟨rfl, Z, rfl, hs⟩) ((((cMf.re.sAL (Or.inr (Or.inr ⟨rfl, rfl⟩))).sI (Or.inr (Or.inr (Or.inr ⟨rfl, rfl, rfl⟩)))).sI (Or.inr (Or.inl ⟨rfl, rfl⟩))).sI (Or.inr (Or.inl ⟨rfl, rfl⟩))) rfl rfl) | skip
            all_goals refine b_74_167 _ _ _ (by first | (exact hc_o (by first | assumption | (exact ⟨by decide, rfl⟩))) | assumption | (exact (hc_far (by omega)).trans (by assumption))) (by omega) (by first | rfl | assumption) ?_ ?_
            all_goals first | (exact fun hne => absurd hel hne) | skip
            all_goals intro _
            all_goals refine b_74_181 _ _ _ (by first | (exact hc_o (by first | assumption | (exact ⟨by decide, rfl⟩))) | assumption | (exact (hc_far (by omega)).trans (by assumption))) (by omega) (by first | rfl | assumption) ?_
            all_goals rw [show ((a.sAL 5 32 1 g').sAL 5 32 0 h').I 7 41 6 = 0 from hel]
            all_goals exact Kok Z g' h' w' rfl hs h hh
          · intro z158
            first | (exact absurd z158 (by decide)) | (exact absurd (by decide) z158) | (exact absurd rfl z158) | (exact absurd z158 (of_nn (by omega))) | (exact absurd (of_np (by omega)) z158) | omega
  · skip
    refine b_74_133 _ _ _ (by first | (exact hc_o (by first | assumption | (exact ⟨by decide, rfl⟩))) | assumption | (exact (hc_far (by omega)).trans (by assumption))) (by omega) (by first | rfl | assumption) ?_ ?_
    · intro z133
      refine cm_167 hn (Or.inl rfl) hpo (by rw [hx]; exact of_17 h1 h7) ?_
      rw [hx]
      exact Ke x _ (Or.inl rfl) ((cMf.re.sI (Or.inr (Or.inl ⟨rfl, rfl⟩))).sI (Or.inr (Or.inl ⟨rfl, rfl⟩))) rfl rfl
    · intro z133
      exact absurd (hx.symm.trans (Classical.not_not.mp z133)) (of_17 h1 h7)
end
