/-! the first object: an input is taken -/
def cRs (a : mh_A) (p q N : Nat) (tb : Nat → ms_N) (lo hi : Int64) (a' : mh_A) (s : Except Nat mv_Z) : Prop := match s with
  | .ok Z' => cM a' p q N tb lo hi Z' ∧ a'.I 7 p 6 = a.I 7 p 6
  | .error x => a'.I 7 p 6 = Int32.ofNat x
section
variable {d e n sl N : Nat} {a a0 a1 a2 : mh_A} {f0 : Nat → mi_C} {Q : (Option Value ⊕ Nat) → mi_H → Prop} {p q i j c k r m ip BN : Nat} {tb : Nat → ms_N} {lo hi v w : Int64} {Z : mv_Z} {bd : Nat → Int64 × Int64} {I : mv_I}
theorem cw_take {A D : Nat} {v' : Int64} (hn : 575 ≤ n) (hA : A < 8) (hD : D < 4) (hv : a.AL 5 32 1 (A * 4 + D) = v') (K0 : v' < v → Q (.inl (some (.int 0))) (n, sl, hc a f0)) (K1 : ¬ v' < v → Q (.inl (some (.int 1))) (n, sl, hc (a.sAL 5 32 1 (vp_updL (a.AL 5 32 1) (A * 4 + D) (v' - v))) f0)) : mi_W d 111 0 (mi_en 6 [.ref 32, .int (Int32.ofNat A), .int (Int32.ofNat D), .long v]) [] (n, sl, hc a f0) Q := by
  subst hv
  have e : Int32.ofNat A * 4 + Int32.ofNat D = Int32.ofNat (A * 4 + D) := by
    rw [show (4 : Int32) = Int32.ofNat 4 from rfl, of_mul, of_add']
  have hix := ix_of (w := A * 4 + D) (m := 32) (by omega) (by omega)
  refine b_111_0 _ _ _ ?_ ?_
  · intro z0
    exact absurd z0 (by rw [e]; exact of_nn (by omega))
  · intro z0
    rw [e]
    refine b_111_12 _ _ _ ?_ ?_
    · intro z12
      exact absurd ((i_le (a := 32) rfl rfl (by omega) (by omega)).mp z12) (by omega)
    · intro z12
      refine b_111_19 _ _ _ _ _ _ (by first | (exact hc_o (by first | assumption | (exact ⟨by decide, rfl⟩))) | assumption | (exact (hc_far (by omega)).trans (by assumption))) (by omega) (by first | rfl | assumption) (by first | (exact hc_al (by omega) (by first | assumption | (exact (ht9 (by assumption)).2.1) | (exact (ht9 (by assumption)).2.2.1) | (exact (ht9 (by assumption)).2.2.2) | rfl)) | assumption | (exact (hc_far (by omega)).trans (by assumption))) (by omega) (by first | assumption | (exact ix_of (by omega) (by omega)) | (exact ⟨by decide, rfl, by decide⟩)) ?_ ?_
      · intro z19
        refine b_111_33 _ _ _ _ _ _ _ _ _ (by first | (exact hc_o (by first | assumption | (exact ⟨by decide, rfl⟩))) | assumption | (exact (hc_far (by omega)).trans (by assumption))) (by omega) (by first | rfl | assumption) (by first | (exact hc_al (by omega) (by first | assumption | (exact (ht9 (by assumption)).2.1) | (exact (ht9 (by assumption)).2.2.1) | (exact (ht9 (by assumption)).2.2.2) | rfl)) | assumption | (exact (hc_far (by omega)).trans (by assumption))) (by omega) (by first | assumption | (exact ix_of (by omega) (by omega)) | (exact ⟨by decide, rfl, by decide⟩)) (by first | (exact hc_al (by omega) (by first | assumption | (exact (ht9 (by assumption)).2.1) | (exact (ht9 (by assumption)).2.2.1) | (exact (ht9 (by assumption)).2.2.2) | rfl)) | assumption | (exact (hc_far (by omega)).trans (by assumption))) (by omega) (by first | assumption | (exact ix_of (by omega) (by omega)) | (exact ⟨by decide, rfl, by decide⟩)) ?_
        refine hw_Q (hw_AL (by omega) (by first | assumption | (exact (ht9 (by assumption)).2.1) | (exact (ht9 (by assumption)).2.2.1) | (exact (ht9 (by assumption)).2.2.2) | rfl)) ?_
        exact K1 (lg_ge.mp z19)
      · intro z19
        refine b_111_31 _ _ _ ?_
        exact K0 (Classical.not_not.mp (fun h => z19 (lg_ge.mpr h)))
theorem cm_rec41 {A B D x y z : Nat} {u : Int64} {t : Nat × Nat} (hn : 575 ≤ n) (h : cM a 41 q N tb lo hi Z) (ha : mz_a tb N m) (hcm : tb m = (7, A, B, D, u, x, y, z, t)) (K7 : true = true ∧ Z.lf (B * 4 + D) < v → ∀ a', cMf 41 q a a' → a'.I 10 (41 + 12) 4 = a.I 10 (41 + 12) 4 → a'.I 7 41 6 = 7 → cM a' 41 q N tb lo hi Z → Q (.inl none) (n, sl, hc a' f0)) (K : ¬ (true = true ∧ Z.lf (B * 4 + D) < v) → ∀ a', cMf 41 q a a' → a'.I 10 (41 + 12) 4 = a.I 10 (41 + 12) 4 → (mv_lm (Z.S.ac (A * 4 + D) + v) = true ∧ a'.I 7 41 6 = a.I 7 41 6 ∨ ¬ mv_lm (Z.S.ac (A * 4 + D) + v) = true ∧ a'.I 7 41 6 = 6) → cM a' 41 q N tb lo hi ((if true = true then Z.tk (B * 4 + D) (Z.lf (B * 4 + D) - v) else Z).ac (A * 4 + D) (Z.S.ac (A * 4 + D) + v)) → Q (.inl none) (n, sl, hc a' f0)) : mi_W (e + 2) 110 0 (mi_en 5 [.ref 41, .int (Int32.ofNat m), .long v]) [] (n, sl, hc a f0) Q := by
  obtain ⟨hR, hqo, hq, hp68, hpo, hro, heo⟩ := h.R
  have hq5 := hq.1
  have hqo5 := hqo.1
  have hN8 := h.2.2.1.1.2
  obtain ⟨hm, -, had, -⟩ := ha
  have hrow := h.row hm
  rw [hcm] at hrow had
  unfold mz_ad at had
  dsimp only at had
  have hA := had.1 (by decide)
  have hB := had.2.1 (by decide)
  have hD := had.2.2 (by decide)
  have h4 : a.AI 2 3 4 m = Int32.ofNat A := hrow.1 4 (by decide) (by decide)
  have h5 : a.AI 2 3 5 m = Int32.ofNat B := hrow.1 5 (by decide) (by decide)
  have h6 : a.AI 2 3 6 m = Int32.ofNat D := hrow.1 6 (by decide) (by decide)
  have hix := ix_of (w := m) (m := 800) (by omega) (by omega)
  refine b_110_0 _ _ _ _ _ _ (by first | (exact hc_o (by first | assumption | (exact ⟨by decide, rfl⟩))) | assumption | (exact (hc_far (by omega)).trans (by assumption))) (by omega) (by first | rfl | assumption) (by first | (exact hc_o (by first | assumption | (exact ⟨by decide, rfl⟩))) | assumption | (exact (hc_far (by omega)).trans (by assumption))) (by omega) (by first | rfl | assumption) (by first | (exact hc_ai (by omega) (by first | assumption | (exact (ht9 (by assumption)).2.1) | (exact (ht9 (by assumption)).2.2.1) | (exact (ht9 (by assumption)).2.2.2) | rfl) (by decide)) | assumption | (exact (hc_far (by omega)).trans (by assumption))) (Or.inl (by omega)) (by first | assumption | (exact ix_of (by omega) (by omega)) | (exact ⟨by decide, rfl, by decide⟩)) (by first | (exact hc_o (by first | assumption | (exact ⟨by decide, rfl⟩))) | assumption | (exact (hc_far (by omega)).trans (by assumption))) (by omega) (by first | rfl | assumption) ?_ ?_ (by first | assumption | (exact mL_get (by decide)) | (rw [mL_len]; decide) | (simp only [mL_set]; exact mL_get (by decide)) | (simp only [mL_set, mL_len]; decide) | (exact va_eq) | (exact (va_ne (by omega)).trans (by assumption)) | (exact (va_ne (by omega)).trans va_eq) | (exact (va_ne (by omega)).trans ((va_ne (by omega)).trans (by assumption))) | (exact (va_ne (by omega)).trans ((va_ne (by omega)).trans ((va_ne (by omega)).trans (by assumption)))) | rfl | (exact Or.inl rfl) | (exact Or.inr rfl) | omega | (exact Nat.le_of_ble_eq_true rfl) | decide | (exact ⟨by decide, rfl, by decide⟩))
  · intro z0
    exact absurd z0 (by simp)
  · intro z0
    intro hw0
    refine b_110_18 _ _ _ _ _ _ (by first | (exact hc_o (by first | assumption | (exact ⟨by decide, rfl⟩))) | assumption | (exact (hc_far (by omega)).trans (by assumption))) (by omega) (by first | rfl | assumption) (by first | (exact hc_o (by first | assumption | (exact ⟨by decide, rfl⟩))) | assumption | (exact (hc_far (by omega)).trans (by assumption))) (by omega) (by first | rfl | assumption) (by first | (exact hc_o (by first | assumption | (exact ⟨by decide, rfl⟩))) | assumption | (exact (hc_far (by omega)).trans (by assumption))) (by omega) (by first | rfl | assumption) (by first | (exact hc_ai (by omega) (by first | assumption | (exact (ht9 (by assumption)).2.1) | (exact (ht9 (by assumption)).2.2.1) | (exact (ht9 (by assumption)).2.2.2) | rfl) (by decide)) | assumption | (exact (hc_far (by omega)).trans (by assumption))) (Or.inl (by omega)) (by first | assumption | (exact ix_of (by omega) (by omega)) | (exact ⟨by decide, rfl, by decide⟩)) (by first | (exact hc_o (by first | assumption | (exact ⟨by decide, rfl⟩))) | assumption | (exact (hc_far (by omega)).trans (by assumption))) (by omega) ?_
    rw [h5, h6]
    refine cw_take (v' := Z.lf (B * 4 + D)) hn hB hD (h.2.2.2.2.2 rfl _ (by omega)) (fun hw => ?_) (fun hw => ?_)
    · refine b_110_37 _ _ _ ?_ ?_
      · intro z37
        first | (exact absurd z37 (by decide)) | (exact absurd (by decide) z37) | (exact absurd rfl z37) | (exact absurd z37 (of_nn (by omega))) | (exact absurd (of_np (by omega)) z37) | omega
      · intro z37
        have KK := K7 ⟨rfl, hw⟩ (a.sI 7 41 6 7) (cMf.re.sI (Or.inr (Or.inr (Or.inr ⟨rfl, rfl, rfl⟩)))) rfl (mh_u_at (X := a.I) (c := 7) (p := 41) (k := 6) (v := 7)) h.er
        refine b_110_40 _ _ _ (by first | (exact hc_o (by first | assumption | (exact ⟨by decide, rfl⟩))) | assumption | (exact (hc_far (by omega)).trans (by assumption))) (by omega) (Nat.le_of_ble_eq_true rfl) ?_
        refine hw_W (hw_I (by first | assumption | (exact ⟨by decide, rfl⟩)) (by decide)) ?_
        refine b_110_77 _ _ _ ?_
        exact KK
    · have k1 := h.tk (j := B * 4 + D) (v := Z.lf (B * 4 + D) - v)
      have f1 := (cMf.re (p := 41) (q := q) (a := a)).sAL (c := 5) (r := 32) (k := 1) (g := vp_updL (a.AL 5 32 1) (B * 4 + D) (Z.lf (B * 4 + D) - v)) (Or.inr (Or.inr ⟨rfl, rfl⟩))
      have g1 : (a.sAL 5 32 1 (vp_updL (a.AL 5 32 1) (B * 4 + D) (Z.lf (B * 4 + D) - v))).I 10 (41 + 12) 4 = a.I 10 (41 + 12) 4 := rfl
      have e1 : (a.sAL 5 32 1 (vp_updL (a.AL 5 32 1) (B * 4 + D) (Z.lf (B * 4 + D) - v))).I 7 41 6 = a.I 7 41 6 := rfl
      have h41 : (a.sAL 5 32 1 (vp_updL (a.AL 5 32 1) (B * 4 + D) (Z.lf (B * 4 + D) - v))).AI 2 3 4 m = Int32.ofNat A := h4
      generalize a.sAL 5 32 1 (vp_updL (a.AL 5 32 1) (B * 4 + D) (Z.lf (B * 4 + D) - v)) = a1 at *
      have hR1 := k1.R
      have hqo1 := hR1.2.1
      have hqo15 := hqo1.1
      have hnw : ¬ (true = true ∧ Z.lf (B * 4 + D) < v) := fun h => hw h.2
      have k1' : cM a1 41 q N tb lo hi (if true = true then Z.tk (B * 4 + D) (Z.lf (B * 4 + D) - v) else Z) := k1
      refine b_110_37 _ _ _ ?_ ?_
      · intro z37
        refine b_110_49 _ _ _ _ _ _ (by first | (exact hc_o (by first | assumption | (exact ⟨by decide, rfl⟩))) | assumption | (exact (hc_far (by omega)).trans (by assumption))) (by omega) (by first | rfl | assumption) (by first | (exact hc_o (by first | assumption | (exact ⟨by decide, rfl⟩))) | assumption | (exact (hc_far (by omega)).trans (by assumption))) (by omega) (by first | rfl | assumption) (by first | (exact hc_o (by first | assumption | (exact ⟨by decide, rfl⟩))) | assumption | (exact (hc_far (by omega)).trans (by assumption))) (by omega) (by first | rfl | assumption) (by first | (exact hc_ai (by omega) (by first | assumption | (exact (ht9 (by assumption)).2.1) | (exact (ht9 (by assumption)).2.2.1) | (exact (ht9 (by assumption)).2.2.2) | rfl) (by decide)) | assumption | (exact (hc_far (by omega)).trans (by assumption))) (Or.inl (by omega)) (by first | assumption | (exact ix_of (by omega) (by omega)) | (exact ⟨by decide, rfl, by decide⟩)) (by first | (exact hc_o (by first | assumption | (exact ⟨by decide, rfl⟩))) | assumption | (exact (hc_far (by omega)).trans (by assumption))) (by omega) ?_
        rw [hR1.1, h41]
        refine cs_add' hn hq hA hD (v' := Z.S.ac (A * 4 + D)) (k1'.2.2.2.1.2.2.2.1 _ (by omega)) (fun b2 hb2 => ?_)
        have k2 := k1'.ac (j := A * 4 + D) (v := Z.S.ac (A * 4 + D) + v)
        have f2 := f1.sAL (c := 9) (r := q) (k := 2) (g := vp_updL (a1.AL 9 q 2) (A * 4 + D) (Z.S.ac (A * 4 + D) + v)) (Or.inl ⟨rfl, rfl⟩)
        have g2 : (a1.sAL 9 q 2 (vp_updL (a1.AL 9 q 2) (A * 4 + D) (Z.S.ac (A * 4 + D) + v))).I 10 (41 + 12) 4 = a.I 10 (41 + 12) 4 := g1
        have e2 : (a1.sAL 9 q 2 (vp_updL (a1.AL 9 q 2) (A * 4 + D) (Z.S.ac (A * 4 + D) + v))).I 7 41 6 = a.I 7 41 6 := e1
        generalize a1.sAL 9 q 2 (vp_updL (a1.AL 9 q 2) (A * 4 + D) (Z.S.ac (A * 4 + D) + v)) = a2 at *
        refine b_110_68 _ _ _ ?_ ?_
        · intro z68
          have KK := K hnw a2 f2 g2 (Or.inl ⟨hb2.elim (fun h => h.2) (fun h => absurd h.1 z68), e2⟩) k2
          refine b_110_77 _ _ _ ?_
          exact KK
        · intro z68
          have KK := K hnw (a2.sI 7 41 6 6) (f2.sI (Or.inr (Or.inr (Or.inr ⟨rfl, rfl, rfl⟩)))) g2 (Or.inr ⟨hb2.elim (fun h => absurd (h.1.symm.trans (Classical.not_not.mp z68)) (by decide)) (fun h => h.2), mh_u_at (X := a2.I) (c := 7) (p := 41) (k := 6) (v := 6)⟩) k2.er
          refine b_110_71 _ _ _ (by first | (exact hc_o (by first | assumption | (exact ⟨by decide, rfl⟩))) | assumption | (exact (hc_far (by omega)).trans (by assumption))) (by omega) (Nat.le_of_ble_eq_true rfl) ?_
          refine hw_W (hw_I (by first | assumption | (exact ⟨by decide, rfl⟩)) (by decide)) ?_
          refine b_110_77 _ _ _ ?_
          exact KK
      · intro z37
        first | (exact absurd z37 (by decide)) | (exact absurd (by decide) z37) | (exact absurd rfl z37) | (exact absurd z37 (of_nn (by omega))) | (exact absurd (of_np (by omega)) z37) | omega
theorem cm_rec67 {A B D x y z : Nat} {u : Int64} {t : Nat × Nat} (hn : 575 ≤ n) (h : cM a 67 q N tb lo hi Z) (ha : mz_a tb N m) (hcm : tb m = (7, A, B, D, u, x, y, z, t)) (K7 : false = true ∧ Z.lf (B * 4 + D) < v → ∀ a', cMf 67 q a a' → a'.I 10 (67 + 12) 4 = a.I 10 (67 + 12) 4 → a'.I 7 67 6 = 7 → cM a' 67 q N tb lo hi Z → Q (.inl none) (n, sl, hc a' f0)) (K : ¬ (false = true ∧ Z.lf (B * 4 + D) < v) → ∀ a', cMf 67 q a a' → a'.I 10 (67 + 12) 4 = a.I 10 (67 + 12) 4 → (mv_lm (Z.S.ac (A * 4 + D) + v) = true ∧ a'.I 7 67 6 = a.I 7 67 6 ∨ ¬ mv_lm (Z.S.ac (A * 4 + D) + v) = true ∧ a'.I 7 67 6 = 6) → cM a' 67 q N tb lo hi ((if false = true then Z.tk (B * 4 + D) (Z.lf (B * 4 + D) - v) else Z).ac (A * 4 + D) (Z.S.ac (A * 4 + D) + v)) → Q (.inl none) (n, sl, hc a' f0)) : mi_W (e + 2) 110 0 (mi_en 5 [.ref 67, .int (Int32.ofNat m), .long v]) [] (n, sl, hc a f0) Q := by
  obtain ⟨hR, hqo, hq, hp68, hpo, hro, heo⟩ := h.R
  have hq5 := hq.1
  have hqo5 := hqo.1
  have hN8 := h.2.2.1.1.2
  obtain ⟨hm, -, had, -⟩ := ha
  have hrow := h.row hm
  rw [hcm] at hrow had
  unfold mz_ad at had
  dsimp only at had
  have hA := had.1 (by decide)
  have hB := had.2.1 (by decide)
  have hD := had.2.2 (by decide)
  have h4 : a.AI 2 3 4 m = Int32.ofNat A := hrow.1 4 (by decide) (by decide)
  have h5 : a.AI 2 3 5 m = Int32.ofNat B := hrow.1 5 (by decide) (by decide)
  have h6 : a.AI 2 3 6 m = Int32.ofNat D := hrow.1 6 (by decide) (by decide)
  have hix := ix_of (w := m) (m := 800) (by omega) (by omega)
  refine b_110_0 _ _ _ _ _ _ (by first | (exact hc_o (by first | assumption | (exact ⟨by decide, rfl⟩))) | assumption | (exact (hc_far (by omega)).trans (by assumption))) (by omega) (by first | rfl | assumption) (by first | (exact hc_o (by first | assumption | (exact ⟨by decide, rfl⟩))) | assumption | (exact (hc_far (by omega)).trans (by assumption))) (by omega) (by first | rfl | assumption) (by first | (exact hc_ai (by omega) (by first | assumption | (exact (ht9 (by assumption)).2.1) | (exact (ht9 (by assumption)).2.2.1) | (exact (ht9 (by assumption)).2.2.2) | rfl) (by decide)) | assumption | (exact (hc_far (by omega)).trans (by assumption))) (Or.inl (by omega)) (by first | assumption | (exact ix_of (by omega) (by omega)) | (exact ⟨by decide, rfl, by decide⟩)) (by first | (exact hc_o (by first | assumption | (exact ⟨by decide, rfl⟩))) | assumption | (exact (hc_far (by omega)).trans (by assumption))) (by omega) (by first | rfl | assumption) ?_ ?_ (by first | assumption | (exact mL_get (by decide)) | (rw [mL_len]; decide) | (simp only [mL_set]; exact mL_get (by decide)) | (simp only [mL_set, mL_len]; decide) | (exact va_eq) | (exact (va_ne (by omega)).trans (by assumption)) | (exact (va_ne (by omega)).trans va_eq) | (exact (va_ne (by omega)).trans ((va_ne (by omega)).trans (by assumption))) | (exact (va_ne (by omega)).trans ((va_ne (by omega)).trans ((va_ne (by omega)).trans (by assumption)))) | rfl | (exact Or.inl rfl) | (exact Or.inr rfl) | omega | (exact Nat.le_of_ble_eq_true rfl) | decide | (exact ⟨by decide, rfl, by decide⟩))
  · intro z0
    obtain ⟨a1, f1, g1, e1, k1e, h41, k1'⟩ : ∃ a1, cMf 67 q a a1 ∧ a1.I 10 (67 + 12) 4 = a.I 10 (67 + 12) 4 ∧ a1.I 7 67 6 = a.I 7 67 6 ∧ a1 = a ∧ a1.AI 2 3 4 m = Int32.ofNat A ∧ cM a1 67 q N tb lo hi (if false = true then Z.tk (B * 4 + D) (Z.lf (B * 4 + D) - v) else Z) := ⟨a, cMf.re, rfl, rfl, rfl, h4, h⟩
    rw [h6, ← k1e]
    have hR1 := k1'.R
    have hqo1 := hR1.2.1
    have hqo15 := hqo1.1
    have hnw : ¬ (false = true ∧ Z.lf (B * 4 + D) < v) := fun h => absurd h.1 (by decide)
    refine b_110_49 _ _ _ _ _ _ (by first | (exact hc_o (by first | assumption | (exact ⟨by decide, rfl⟩))) | assumption | (exact (hc_far (by omega)).trans (by assumption))) (by omega) (by first | rfl | assumption) (by first | (exact hc_o (by first | assumption | (exact ⟨by decide, rfl⟩))) | assumption | (exact (hc_far (by omega)).trans (by assumption))) (by omega) (by first | rfl | assumption) (by first | (exact hc_o (by first | assumption | (exact ⟨by decide, rfl⟩))) | assumption | (exact (hc_far (by omega)).trans (by assumption))) (by omega) (by first | rfl | assumption) (by first | (exact hc_ai (by omega) (by first | assumption | (exact (ht9 (by assumption)).2.1) | (exact (ht9 (by assumption)).2.2.1) | (exact (ht9 (by assumption)).2.2.2) | rfl) (by decide)) | assumption | (exact (hc_far (by omega)).trans (by assumption))) (Or.inl (by omega)) (by first | assumption | (exact ix_of (by omega) (by omega)) | (exact ⟨by decide, rfl, by decide⟩)) (by first | (exact hc_o (by first | assumption | (exact ⟨by decide, rfl⟩))) | assumption | (exact (hc_far (by omega)).trans (by assumption))) (by omega) ?_
    rw [hR1.1, h41]
    refine cs_add' hn hq hA hD (v' := Z.S.ac (A * 4 + D)) (k1'.2.2.2.1.2.2.2.1 _ (by omega)) (fun b2 hb2 => ?_)
    have k2 := k1'.ac (j := A * 4 + D) (v := Z.S.ac (A * 4 + D) + v)
    have f2 := f1.sAL (c := 9) (r := q) (k := 2) (g := vp_updL (a1.AL 9 q 2) (A * 4 + D) (Z.S.ac (A * 4 + D) + v)) (Or.inl ⟨rfl, rfl⟩)
    have g2 : (a1.sAL 9 q 2 (vp_updL (a1.AL 9 q 2) (A * 4 + D) (Z.S.ac (A * 4 + D) + v))).I 10 (67 + 12) 4 = a.I 10 (67 + 12) 4 := g1
    have e2 : (a1.sAL 9 q 2 (vp_updL (a1.AL 9 q 2) (A * 4 + D) (Z.S.ac (A * 4 + D) + v))).I 7 67 6 = a.I 7 67 6 := e1
    generalize a1.sAL 9 q 2 (vp_updL (a1.AL 9 q 2) (A * 4 + D) (Z.S.ac (A * 4 + D) + v)) = a2 at *
    refine b_110_68 _ _ _ ?_ ?_
    · intro z68
      have KK := K hnw a2 f2 g2 (Or.inl ⟨hb2.elim (fun h => h.2) (fun h => absurd h.1 z68), e2⟩) k2
      refine b_110_77 _ _ _ ?_
      exact KK
    · intro z68
      have KK := K hnw (a2.sI 7 67 6 6) (f2.sI (Or.inr (Or.inr (Or.inr ⟨rfl, rfl, rfl⟩)))) g2 (Or.inr ⟨hb2.elim (fun h => absurd (h.1.symm.trans (Classical.not_not.mp z68)) (by decide)) (fun h => h.2), mh_u_at (X := a2.I) (c := 7) (p := 67) (k := 6) (v := 6)⟩) k2.er
      refine b_110_71 _ _ _ (by first | (exact hc_o (by first | assumption | (exact ⟨by decide, rfl⟩))) | assumption | (exact (hc_far (by omega)).trans (by assumption))) (by omega) (Nat.le_of_ble_eq_true rfl) ?_
      refine hw_W (hw_I (by first | assumption | (exact ⟨by decide, rfl⟩)) (by decide)) ?_
      refine b_110_77 _ _ _ ?_
      exact KK
  · intro z0
    intro hw0
    exact absurd hw0 (by simp)
end
