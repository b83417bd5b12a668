/-! the first object: pay -/
section
variable {d e n sl N : Nat} {a a0 a1 a2 : mh_A} {f0 : Nat → mi_C} {Q : (Option Value ⊕ Nat) → mi_H → Prop} {p q i j c k r m : Nat} {tb : Nat → ms_N} {lo hi v w : Int64} {Z : mv_Z}
theorem cs_add' {A D : Nat} {v' : Int64} (hn : 575 ≤ n) (hq : mh_o q 9) (hA : A < 8) (hD : D < 4) (hv : a.AL 9 q 2 (A * 4 + D) = v') (K : ∀ b, (b = 1 ∧ mv_lm (v' + v) = true) ∨ (b = 0 ∧ ¬ mv_lm (v' + v) = true) → Q (.inl (some (.int b))) (n, sl, hc (a.sAL 9 q 2 (vp_updL (a.AL 9 q 2) (A * 4 + D) (v' + v))) f0)) : mi_W d 100 0 (mi_en 6 [.ref q, .int (Int32.ofNat A), .int (Int32.ofNat D), .long v]) [] (n, sl, hc a f0) Q := by
  subst hv
  exact cs_add hn hq hA hD (fun h => K 1 (Or.inl ⟨rfl, h⟩)) (fun h => K 0 (Or.inr ⟨rfl, h⟩))
theorem cm_pay1 {A B D x y z : Nat} {u : Nat × Nat} (hn : 575 ≤ n) (h : cM a p q N tb lo hi Z) (hfl : a.I 10 (p + 12) 4 = 0) (hS : mv_ok Z.S) (hm : m < N) (hcm : tb m = (1, A, B, D, v, x, y, z, u)) (hy : y ≤ 800) (hA : A < 8) (hB : B < 8) (hD : D < 4) (hx : mz_ok tb N 100 1 x) (K : ∀ r l a', cvo id ((mv_E tb Z.S lo hi 100).1 x) false r l → cMf p q a a' → a'.I 10 (p + 12) 4 = cfl l → cM a' p q N tb lo hi (mv_pay 1 A B D y m Z r).1 → ((mv_pay 1 A B D y m Z r).2 = true ∧ a'.I 7 p 6 = a.I 7 p 6 ∨ ¬ (mv_pay 1 A B D y m Z r).2 = true ∧ a'.I 7 p 6 = 6) → Q (.inl none) (n, sl, hc a' f0)) : mi_W (e + 110) 86 0 (mi_en 9 [.ref p, .int (Int32.ofNat m)]) [] (n, sl, hc a f0) Q := by
  obtain ⟨hR, hqo, hq, hp68, hpo, hro, heo⟩ := h.R
  have hq5 := hq.1
  have hqo5 := hqo.1
  have hp12 := hro.1
  have hN8 := h.2.2.1.1.2
  have hrow := h.row hm
  rw [hcm] at hrow
  have h1 : a.AI 2 3 1 m = Int32.ofNat x := hrow.1 1 (by decide) (by decide)
  have hix := ix_of (w := m) (m := 800) (by omega) (by omega)
  refine b_86_0 _ _ _ _ _ _ (by first | (exact hc_o (by first | assumption | (exact ⟨by decide, rfl⟩))) | assumption | (exact (hc_far (by omega)).trans (by assumption))) (by omega) (by first | rfl | assumption) (by first | (exact hc_o (by first | assumption | (exact ⟨by decide, rfl⟩))) | assumption | (exact (hc_far (by omega)).trans (by assumption))) (by omega) (by first | rfl | assumption) (by first | (exact hc_o (by first | assumption | (exact ⟨by decide, rfl⟩))) | assumption | (exact (hc_far (by omega)).trans (by assumption))) (by omega) (by first | rfl | assumption) (by first | (exact hc_ai (by omega) (by first | assumption | (exact (ht9 (by assumption)).2.1) | (exact (ht9 (by assumption)).2.2.1) | (exact (ht9 (by assumption)).2.2.2) | rfl) (by decide)) | assumption | (exact (hc_far (by omega)).trans (by assumption))) (Or.inl (by omega)) (by first | assumption | (exact ix_of (by omega) (by omega)) | (exact ⟨by decide, rfl, by decide⟩)) (by first | (exact hc_o (by first | assumption | (exact ⟨by decide, rfl⟩))) | assumption | (exact (hc_far (by omega)).trans (by assumption))) (by omega) ?_
  rw [h1]
  refine (cv_E hn (h.rk hfl hS) 100 (Nat.le_refl _)).1 x 1 _ false _ (by omega) (by omega) hx (fun r1 l1 c1 => ?_)
  have k1 := h.cvL (l := l1)
  have f1 := (cMf.re (p := p) (q := q) (a := a)).cvL (l := l1)
  have g1 := cvL_fl (l := l1) hfl
  have e1 := cvL_er (p := p) (a := a) (l := l1)
  generalize cvL (p + 12) a l1 = a1 at *
  have hR1 := k1.R
  have hqo1 := hR1.2.1
  have hqo15 := hqo1.1
  have hrow1 := k1.row hm
  rw [hcm] at hrow1
  have h31 : a1.AI 2 3 3 m = Int32.ofNat y := hrow1.1 3 (by decide) (by decide)
  have h41 : a1.AI 2 3 4 m = Int32.ofNat A := hrow1.1 4 (by decide) (by decide)
  have h51 : a1.AI 2 3 5 m = Int32.ofNat B := hrow1.1 5 (by decide) (by decide)
  have h61 : a1.AI 2 3 6 m = Int32.ofNat D := hrow1.1 6 (by decide) (by decide)
  refine b_86_17 _ _ _ _ _ _ _ _ _ _ _ _ _ _ _ (by first | (exact hc_o (by first | assumption | (exact ⟨by decide, rfl⟩))) | assumption | (exact (hc_far (by omega)).trans (by assumption))) (by omega) (by first | rfl | assumption) (by first | (exact hc_o (by first | assumption | (exact ⟨by decide, rfl⟩))) | assumption | (exact (hc_far (by omega)).trans (by assumption))) (by omega) (by first | rfl | assumption) (by first | (exact hc_ai (by omega) (by first | assumption | (exact (ht9 (by assumption)).2.1) | (exact (ht9 (by assumption)).2.2.1) | (exact (ht9 (by assumption)).2.2.2) | rfl) (by decide)) | assumption | (exact (hc_far (by omega)).trans (by assumption))) (Or.inl (by omega)) (by first | assumption | (exact ix_of (by omega) (by omega)) | (exact ⟨by decide, rfl, by decide⟩)) (by first | (exact hc_o (by first | assumption | (exact ⟨by decide, rfl⟩))) | assumption | (exact (hc_far (by omega)).trans (by assumption))) (by omega) (by first | rfl | assumption) (by first | (exact hc_o (by first | assumption | (exact ⟨by decide, rfl⟩))) | assumption | (exact (hc_far (by omega)).trans (by assumption))) (by omega) (by first | rfl | assumption) (by first | (exact hc_ai (by omega) (by first | assumption | (exact (ht9 (by assumption)).2.1) | (exact (ht9 (by assumption)).2.2.1) | (exact (ht9 (by assumption)).2.2.2) | rfl) (by decide)) | assumption | (exact (hc_far (by omega)).trans (by assumption))) (Or.inl (by omega)) (by first | assumption | (exact ix_of (by omega) (by omega)) | (exact ⟨by decide, rfl, by decide⟩)) (by first | (exact hc_o (by first | assumption | (exact ⟨by decide, rfl⟩))) | assumption | (exact (hc_far (by omega)).trans (by assumption))) (by omega) (by first | rfl | assumption) (by first | (exact hc_o (by first | assumption | (exact ⟨by decide, rfl⟩))) | assumption | (exact (hc_far (by omega)).trans (by assumption))) (by omega) (by first | rfl | assumption) (by first | (exact hc_ai (by omega) (by first | assumption | (exact (ht9 (by assumption)).2.1) | (exact (ht9 (by assumption)).2.2.1) | (exact (ht9 (by assumption)).2.2.2) | rfl) (by decide)) | assumption | (exact (hc_far (by omega)).trans (by assumption))) (Or.inl (by omega)) (by first | assumption | (exact ix_of (by omega) (by omega)) | (exact ⟨by decide, rfl, by decide⟩)) (by first | (exact hc_o (by first | assumption | (exact ⟨by decide, rfl⟩))) | assumption | (exact (hc_far (by omega)).trans (by assumption))) (by omega) (by first | rfl | assumption) (by first | (exact hc_o (by first | assumption | (exact ⟨by decide, rfl⟩))) | assumption | (exact (hc_far (by omega)).trans (by assumption))) (by omega) (by first | rfl | assumption) (by first | (exact hc_o (by first | assumption | (exact ⟨by decide, rfl⟩))) | assumption | (exact (hc_far (by omega)).trans (by assumption))) (by omega) (by first | rfl | assumption) (by first | (exact hc_ai (by omega) (by first | assumption | (exact (ht9 (by assumption)).2.1) | (exact (ht9 (by assumption)).2.2.1) | (exact (ht9 (by assumption)).2.2.2) | rfl) (by decide)) | assumption | (exact (hc_far (by omega)).trans (by assumption))) (Or.inl (by omega)) (by first | assumption | (exact ix_of (by omega) (by omega)) | (exact ⟨by decide, rfl, by decide⟩)) (by first | (exact hc_o (by first | assumption | (exact ⟨by decide, rfl⟩))) | assumption | (exact (hc_far (by omega)).trans (by assumption))) (by omega) (Nat.le_of_ble_eq_true rfl) ?_ ?_
  · intro z17
    refine hw_W (hw_I (by first | assumption | (exact ⟨by decide, rfl⟩)) (by decide)) ?_
    rw [hR1.1, h31, h41, h51, h61]
    have k2 := k1.go (i := y) hy
    have f2 := f1.sI (c := 9) (r := q) (k := 0) (v := Int32.ofNat y) (Or.inl ⟨rfl, rfl⟩)
    have g2 : (a1.sI 9 q 0 (Int32.ofNat y)).I 10 (p + 12) 4 = cfl l1 := g1
    have e2 : (a1.sI 9 q 0 (Int32.ofNat y)).I 7 p 6 = a.I 7 p 6 := e1
    generalize a1.sI 9 q 0 (Int32.ofNat y) = a2 at *
    have hR2 := k2.R
    have hqo2 := hR2.2.1
    have hqo25 := hqo2.1
    refine b_86_83 _ _ _ (by first | (exact hc_o (by first | assumption | (exact ⟨by decide, rfl⟩))) | assumption | (exact (hc_far (by omega)).trans (by assumption))) (by omega) (by first | rfl | assumption) (by first | (exact hc_o (by first | assumption | (exact ⟨by decide, rfl⟩))) | assumption | (exact (hc_far (by omega)).trans (by assumption))) (by omega) ?_
    rw [hR2.1]
    refine cv_bal hn hq hA hD ?_
    have hpos : ¬ r1 ≤ 0 := Int64.not_le.mpr (lg_gt.mp z17)
    have hb : a2.AL 9 q 2 (A * 4 + D) = Z.S.ac (A * 4 + D) := k2.2.2.2.1.2.2.2.1 _ (by omega)
    rw [hb]
    refine b_86_95 _ _ _ ?_
    refine cj_minl ?_
    have hpe : mv_pay 1 A B D y m Z r1 = mv_p2 1 A B D (mv_min r1 (Z.S.ac (A * 4 + D))) (mv_p1 A D y m Z r1) := by
      unfold mv_pay
      rw [if_neg hpos]
    have hp1 : mv_p1 A D y m Z r1 = if mv_min r1 (Z.S.ac (A * 4 + D)) < r1 then ((Z.go y).ac (A * 4 + D) (Z.S.ac (A * 4 + D) + -(mv_min r1 (Z.S.ac (A * 4 + D))))).wn 3 m else ((Z.go y).ac (A * 4 + D) (Z.S.ac (A * 4 + D) + -(mv_min r1 (Z.S.ac (A * 4 + D))))) := rfl
    generalize mv_min r1 (Z.S.ac (A * 4 + D)) = X0 at *
    generalize mv_p1 A D y m Z r1 = Z1 at *
    refine b_86_98 _ _ _ (by first | (exact hc_o (by first | assumption | (exact ⟨by decide, rfl⟩))) | assumption | (exact (hc_far (by omega)).trans (by assumption))) (by omega) (by first | rfl | assumption) (by first | (exact hc_o (by first | assumption | (exact ⟨by decide, rfl⟩))) | assumption | (exact (hc_far (by omega)).trans (by assumption))) (by omega) ?_
    rw [hR2.1]
    refine cs_add' hn hq hA hD hb (fun b1 _ => ?_)
    have k3 := k2.ac (j := A * 4 + D) (v := Z.S.ac (A * 4 + D) + -X0)
    have f3 := f2.sAL (c := 9) (r := q) (k := 2) (g := vp_updL (a2.AL 9 q 2) (A * 4 + D) (Z.S.ac (A * 4 + D) + -X0)) (Or.inl ⟨rfl, rfl⟩)
    have g3 : (a2.sAL 9 q 2 (vp_updL (a2.AL 9 q 2) (A * 4 + D) (Z.S.ac (A * 4 + D) + -X0))).I 10 (p + 12) 4 = cfl l1 := g2
    have e3 : (a2.sAL 9 q 2 (vp_updL (a2.AL 9 q 2) (A * 4 + D) (Z.S.ac (A * 4 + D) + -X0))).I 7 p 6 = a.I 7 p 6 := e2
    generalize a2.sAL 9 q 2 (vp_updL (a2.AL 9 q 2) (A * 4 + D) (Z.S.ac (A * 4 + D) + -X0)) = a3 at *
    refine b_86_114 _ _ _ ?_ ?_
    · intro z114
      rw [if_neg (lg_ge.mp z114)] at hp1
      obtain ⟨a4, f4, e4, g4, k4e, k4⟩ : ∃ a4, cMf p q a a4 ∧ a4.I 7 p 6 = a.I 7 p 6 ∧ a4.I 10 (p + 12) 4 = cfl l1 ∧ hc a4 f0 = hc a3 f0 ∧ cM a4 p q N tb lo hi Z1 := ⟨a3, f3, e3, g3, rfl, by rw [hp1]; exact k3⟩
      rw [← k4e]
      have hR4 := k4.R
      have hqo4 := hR4.2.1
      have hqo45 := hqo4.1
      have hrow4 := k4.row hm
      rw [hcm] at hrow4
      have h84 : a4.AI 2 3 8 m = 0 := hrow4.1 8 (by decide) (by decide)
      refine b_86_131 _ _ _ _ _ _ (by first | (exact hc_o (by first | assumption | (exact ⟨by decide, rfl⟩))) | assumption | (exact (hc_far (by omega)).trans (by assumption))) (by omega) (by first | rfl | assumption) (by first | (exact hc_o (by first | assumption | (exact ⟨by decide, rfl⟩))) | assumption | (exact (hc_far (by omega)).trans (by assumption))) (by omega) (by first | rfl | assumption) (by first | (exact hc_ai (by omega) (by first | assumption | (exact (ht9 (by assumption)).2.1) | (exact (ht9 (by assumption)).2.2.1) | (exact (ht9 (by assumption)).2.2.2) | rfl) (by decide)) | assumption | (exact (hc_far (by omega)).trans (by assumption))) (by omega) (by first | assumption | (exact ix_of (by omega) (by omega)) | (exact ⟨by decide, rfl, by decide⟩)) ?_ ?_
      · intro z131
        exact absurd h84 z131
      · intro z131
        refine b_86_143 _ _ _ ?_ ?_
        · intro z143
          have hX : X0 = 0 := lg_e.mp z143
          have hpe' : mv_pay 1 A B D y m Z r1 = (Z1, true) := by
            rw [hpe]
            unfold mv_p2
            rw [if_pos rfl, if_pos hX]
          have KK := K r1 l1 a4 c1 f4 g4 (by rw [hpe']; exact k4) (Or.inl ⟨by rw [hpe'], e4⟩)
          refine b_86_168 _ _ _ _ _ _ (by first | (exact hc_o (by first | assumption | (exact ⟨by decide, rfl⟩))) | assumption | (exact (hc_far (by omega)).trans (by assumption))) (by omega) (by first | rfl | assumption) (by first | (exact hc_o (by first | assumption | (exact ⟨by decide, rfl⟩))) | assumption | (exact (hc_far (by omega)).trans (by assumption))) (by omega) (by first | rfl | assumption) (by first | (exact hc_ai (by omega) (by first | assumption | (exact (ht9 (by assumption)).2.1) | (exact (ht9 (by assumption)).2.2.1) | (exact (ht9 (by assumption)).2.2.2) | rfl) (by decide)) | assumption | (exact (hc_far (by omega)).trans (by assumption))) (by omega) (by first | assumption | (exact ix_of (by omega) (by omega)) | (exact ⟨by decide, rfl, by decide⟩)) ?_ ?_
          · intro z168
            refine b_86_202 _ _ _ ?_
            exact KK
          · intro z168
            exact absurd h84 z168
        · intro z143
          have hX : ¬ X0 = 0 := fun h => z143 (lg_e.mpr h)
          refine b_86_150 _ _ _ (by first | (exact hc_o (by first | assumption | (exact ⟨by decide, rfl⟩))) | assumption | (exact (hc_far (by omega)).trans (by assumption))) (by omega) (by first | rfl | assumption) (by first | (exact hc_o (by first | assumption | (exact ⟨by decide, rfl⟩))) | assumption | (exact (hc_far (by omega)).trans (by assumption))) (by omega) ?_
          refine ce_pay hn k4 (fun a5 f5 e5 g5 k5 => ?_)
          have hpe' : mv_pay 1 A B D y m Z r1 = (Z1.py A B D X0, true) := by
            rw [hpe]
            unfold mv_p2
            rw [if_pos rfl, if_neg hX]
          have KK := K r1 l1 a5 c1 (f4.trans f5) (g5.trans g4) (by rw [hpe']; exact k5) (Or.inl ⟨by rw [hpe'], e5.trans e4⟩)
          refine b_86_165 _ _ _ ?_
          refine b_86_202 _ _ _ ?_
          exact KK
    · intro z114
      rw [if_pos (Classical.not_not.mp (fun h => z114 (lg_ge.mpr h)))] at hp1
      refine b_86_122 _ _ _ (by first | (exact hc_o (by first | assumption | (exact ⟨by decide, rfl⟩))) | assumption | (exact (hc_far (by omega)).trans (by assumption))) (by omega) (by first | rfl | assumption) (by first | (exact hc_o (by first | assumption | (exact ⟨by decide, rfl⟩))) | assumption | (exact (hc_far (by omega)).trans (by assumption))) (by omega) ?_
      refine ce_warn (x := 3) hn k3 (fun a4 f4' e4' g4' k4' => ?_)
      have f4 := f3.trans f4'
      have e4 := e4'.trans e3
      have g4 := g4'.trans g3
      have k4 : cM a4 p q N tb lo hi Z1 := by rw [hp1]; exact k4'
      have hR4 := k4.R
      have hqo4 := hR4.2.1
      have hqo45 := hqo4.1
      have hrow4 := k4.row hm
      rw [hcm] at hrow4
      have h84 : a4.AI 2 3 8 m = 0 := hrow4.1 8 (by decide) (by decide)
      refine b_86_131 _ _ _ _ _ _ (by first | (exact hc_o (by first | assumption | (exact ⟨by decide, rfl⟩))) | assumption | (exact (hc_far (by omega)).trans (by assumption))) (by omega) (by first | rfl | assumption) (by first | (exact hc_o (by first | assumption | (exact ⟨by decide, rfl⟩))) | assumption | (exact (hc_far (by omega)).trans (by assumption))) (by omega) (by first | rfl | assumption) (by first | (exact hc_ai (by omega) (by first | assumption | (exact (ht9 (by assumption)).2.1) | (exact (ht9 (by assumption)).2.2.1) | (exact (ht9 (by assumption)).2.2.2) | rfl) (by decide)) | assumption | (exact (hc_far (by omega)).trans (by assumption))) (by omega) (by first | assumption | (exact ix_of (by omega) (by omega)) | (exact ⟨by decide, rfl, by decide⟩)) ?_ ?_
      · intro z131
        exact absurd h84 z131
      · intro z131
        refine b_86_143 _ _ _ ?_ ?_
        · intro z143
          have hX : X0 = 0 := lg_e.mp z143
          have hpe' : mv_pay 1 A B D y m Z r1 = (Z1, true) := by
            rw [hpe]
            unfold mv_p2
            rw [if_pos rfl, if_pos hX]
          have KK := K r1 l1 a4 c1 f4 g4 (by rw [hpe']; exact k4) (Or.inl ⟨by rw [hpe'], e4⟩)
          refine b_86_168 _ _ _ _ _ _ (by first | (exact hc_o (by first | assumption | (exact ⟨by decide, rfl⟩))) | assumption | (exact (hc_far (by omega)).trans (by assumption))) (by omega) (by first | rfl | assumption) (by first | (exact hc_o (by first | assumption | (exact ⟨by decide, rfl⟩))) | assumption | (exact (hc_far (by omega)).trans (by assumption))) (by omega) (by first | rfl | assumption) (by first | (exact hc_ai (by omega) (by first | assumption | (exact (ht9 (by assumption)).2.1) | (exact (ht9 (by assumption)).2.2.1) | (exact (ht9 (by assumption)).2.2.2) | rfl) (by decide)) | assumption | (exact (hc_far (by omega)).trans (by assumption))) (by omega) (by first | assumption | (exact ix_of (by omega) (by omega)) | (exact ⟨by decide, rfl, by decide⟩)) ?_ ?_
          · intro z168
            refine b_86_202 _ _ _ ?_
            exact KK
          · intro z168
            exact absurd h84 z168
        · intro z143
          have hX : ¬ X0 = 0 := fun h => z143 (lg_e.mpr h)
          refine b_86_150 _ _ _ (by first | (exact hc_o (by first | assumption | (exact ⟨by decide, rfl⟩))) | assumption | (exact (hc_far (by omega)).trans (by assumption))) (by omega) (by first | rfl | assumption) (by first | (exact hc_o (by first | assumption | (exact ⟨by decide, rfl⟩))) | assumption | (exact (hc_far (by omega)).trans (by assumption))) (by omega) ?_
          refine ce_pay hn k4 (fun a5 f5 e5 g5 k5 => ?_)
          have hpe' : mv_pay 1 A B D y m Z r1 = (Z1.py A B D X0, true) := by
            rw [hpe]
            unfold mv_p2
            rw [if_pos rfl, if_neg hX]
          have KK := K r1 l1 a5 c1 (f4.trans f5) (g5.trans g4) (by rw [hpe']; exact k5) (Or.inl ⟨by rw [hpe'], e5.trans e4⟩)
          refine b_86_165 _ _ _ ?_
          refine b_86_202 _ _ _ ?_
          exact KK
  · intro z17
    refine hw_W (hw_I (by first | assumption | (exact ⟨by decide, rfl⟩)) (by decide)) ?_
    rw [hR1.1, h31, h41, h51, h61]
    have k2 := k1.go (i := y) hy
    have f2 := f1.sI (c := 9) (r := q) (k := 0) (v := Int32.ofNat y) (Or.inl ⟨rfl, rfl⟩)
    have g2 : (a1.sI 9 q 0 (Int32.ofNat y)).I 10 (p + 12) 4 = cfl l1 := g1
    have e2 : (a1.sI 9 q 0 (Int32.ofNat y)).I 7 p 6 = a.I 7 p 6 := e1
    generalize a1.sI 9 q 0 (Int32.ofNat y) = a2 at *
    have hR2 := k2.R
    have hqo2 := hR2.2.1
    have hqo25 := hqo2.1
    refine b_86_73 _ _ _ (by first | (exact hc_o (by first | assumption | (exact ⟨by decide, rfl⟩))) | assumption | (exact (hc_far (by omega)).trans (by assumption))) (by omega) (by first | rfl | assumption) (by first | (exact hc_o (by first | assumption | (exact ⟨by decide, rfl⟩))) | assumption | (exact (hc_far (by omega)).trans (by assumption))) (by omega) ?_
    refine ce_warn (x := 2) hn k2 (fun a3 f3 e3 g3 k3 => ?_)
    refine b_86_82 _ _ _ ?_
    have hle : r1 ≤ 0 := Int64.not_lt.mp (fun h => z17 (lg_gt.mpr h))
    have hpe : mv_pay 1 A B D y m Z r1 = ((Z.go y).wn 2 m, true) := by
      unfold mv_pay
      rw [if_pos hle]
    exact K r1 l1 a3 c1 (f2.trans f3) (g3.trans g2) (by rw [hpe]; exact k3) (Or.inl ⟨by rw [hpe], e3.trans e2⟩)
theorem cm_pay2 {A B D x y z : Nat} {u : Nat × Nat} (hn : 575 ≤ n) (h : cM a p q N tb lo hi Z) (hfl : a.I 10 (p + 12) 4 = 0) (hS : mv_ok Z.S) (hm : m < N) (hcm : tb m = (2, A, B, D, v, x, y, z, u)) (hy : y ≤ 800) (hA : A < 8) (hB : B < 8) (hD : D < 4) (hx : mz_ok tb N 100 1 x) (K : ∀ r l a', cvo id ((mv_E tb Z.S lo hi 100).1 x) false r l → cMf p q a a' → a'.I 10 (p + 12) 4 = cfl l → cM a' p q N tb lo hi (mv_pay 2 A B D y m Z r).1 → ((mv_pay 2 A B D y m Z r).2 = true ∧ a'.I 7 p 6 = a.I 7 p 6 ∨ ¬ (mv_pay 2 A B D y m Z r).2 = true ∧ a'.I 7 p 6 = 6) → Q (.inl none) (n, sl, hc a' f0)) : mi_W (e + 110) 86 0 (mi_en 9 [.ref p, .int (Int32.ofNat m)]) [] (n, sl, hc a f0) Q := by
  obtain ⟨hR, hqo, hq, hp68, hpo, hro, heo⟩ := h.R
  have hq5 := hq.1
  have hqo5 := hqo.1
  have hp12 := hro.1
  have hN8 := h.2.2.1.1.2
  have hrow := h.row hm
  rw [hcm] at hrow
  have h1 : a.AI 2 3 1 m = Int32.ofNat x := hrow.1 1 (by decide) (by decide)
  have hix := ix_of (w := m) (m := 800) (by omega) (by omega)
  refine b_86_0 _ _ _ _ _ _ (by first | (exact hc_o (by first | assumption | (exact ⟨by decide, rfl⟩))) | assumption | (exact (hc_far (by omega)).trans (by assumption))) (by omega) (by first | rfl | assumption) (by first | (exact hc_o (by first | assumption | (exact ⟨by decide, rfl⟩))) | assumption | (exact (hc_far (by omega)).trans (by assumption))) (by omega) (by first | rfl | assumption) (by first | (exact hc_o (by first | assumption | (exact ⟨by decide, rfl⟩))) | assumption | (exact (hc_far (by omega)).trans (by assumption))) (by omega) (by first | rfl | assumption) (by first | (exact hc_ai (by omega) (by first | assumption | (exact (ht9 (by assumption)).2.1) | (exact (ht9 (by assumption)).2.2.1) | (exact (ht9 (by assumption)).2.2.2) | rfl) (by decide)) | assumption | (exact (hc_far (by omega)).trans (by assumption))) (Or.inl (by omega)) (by first | assumption | (exact ix_of (by omega) (by omega)) | (exact ⟨by decide, rfl, by decide⟩)) (by first | (exact hc_o (by first | assumption | (exact ⟨by decide, rfl⟩))) | assumption | (exact (hc_far (by omega)).trans (by assumption))) (by omega) ?_
  rw [h1]
  refine (cv_E hn (h.rk hfl hS) 100 (Nat.le_refl _)).1 x 1 _ false _ (by omega) (by omega) hx (fun r1 l1 c1 => ?_)
  have k1 := h.cvL (l := l1)
  have f1 := (cMf.re (p := p) (q := q) (a := a)).cvL (l := l1)
  have g1 := cvL_fl (l := l1) hfl
  have e1 := cvL_er (p := p) (a := a) (l := l1)
  generalize cvL (p + 12) a l1 = a1 at *
  have hR1 := k1.R
  have hqo1 := hR1.2.1
  have hqo15 := hqo1.1
  have hrow1 := k1.row hm
  rw [hcm] at hrow1
  have h31 : a1.AI 2 3 3 m = Int32.ofNat y := hrow1.1 3 (by decide) (by decide)
  have h41 : a1.AI 2 3 4 m = Int32.ofNat A := hrow1.1 4 (by decide) (by decide)
  have h51 : a1.AI 2 3 5 m = Int32.ofNat B := hrow1.1 5 (by decide) (by decide)
  have h61 : a1.AI 2 3 6 m = Int32.ofNat D := hrow1.1 6 (by decide) (by decide)
  refine b_86_17 _ _ _ _ _ _ _ _ _ _ _ _ _ _ _ (by first | (exact hc_o (by first | assumption | (exact ⟨by decide, rfl⟩))) | assumption | (exact (hc_far (by omega)).trans (by assumption))) (by omega) (by first | rfl | assumption) (by first | (exact hc_o (by first | assumption | (exact ⟨by decide, rfl⟩))) | assumption | (exact (hc_far (by omega)).trans (by assumption))) (by omega) (by first | rfl | assumption) (by first | (exact hc_ai (by omega) (by first | assumption | (exact (ht9 (by assumption)).2.1) | (exact (ht9 (by assumption)).2.2.1) | (exact (ht9 (by assumption)).2.2.2) | rfl) (by decide)) | assumption | (exact (hc_far (by omega)).trans (by assumption))) (Or.inl (by omega)) (by first | assumption | (exact ix_of (by omega) (by omega)) | (exact ⟨by decide, rfl, by decide⟩)) (by first | (exact hc_o (by first | assumption | (exact ⟨by decide, rfl⟩))) | assumption | (exact (hc_far (by omega)).trans (by assumption))) (by omega) (by first | rfl | assumption) (by first | (exact hc_o (by first | assumption | (exact ⟨by decide, rfl⟩))) | assumption | (exact (hc_far (by omega)).trans (by assumption))) (by omega) (by first | rfl | assumption) (by first | (exact hc_ai (by omega) (by first | assumption | (exact (ht9 (by assumption)).2.1) | (exact (ht9 (by assumption)).2.2.1) | (exact (ht9 (by assumption)).2.2.2) | rfl) (by decide)) | assumption | (exact (hc_far (by omega)).trans (by assumption))) (Or.inl (by omega)) (by first | assumption | (exact ix_of (by omega) (by omega)) | (exact ⟨by decide, rfl, by decide⟩)) (by first | (exact hc_o (by first | assumption | (exact ⟨by decide, rfl⟩))) | assumption | (exact (hc_far (by omega)).trans (by assumption))) (by omega) (by first | rfl | assumption) (by first | (exact hc_o (by first | assumption | (exact ⟨by decide, rfl⟩))) | assumption | (exact (hc_far (by omega)).trans (by assumption))) (by omega) (by first | rfl | assumption) (by first | (exact hc_ai (by omega) (by first | assumption | (exact (ht9 (by assumption)).2.1) | (exact (ht9 (by assumption)).2.2.1) | (exact (ht9 (by assumption)).2.2.2) | rfl) (by decide)) | assumption | (exact (hc_far (by omega)).trans (by assumption))) (Or.inl (by omega)) (by first | assumption | (exact ix_of (by omega) (by omega)) | (exact ⟨by decide, rfl, by decide⟩)) (by first | (exact hc_o (by first | assumption | (exact ⟨by decide, rfl⟩))) | assumption | (exact (hc_far (by omega)).trans (by assumption))) (by omega) (by first | rfl | assumption) (by first | (exact hc_o (by first | assumption | (exact ⟨by decide, rfl⟩))) | assumption | (exact (hc_far (by omega)).trans (by assumption))) (by omega) (by first | rfl | assumption) (by first | (exact hc_o (by first | assumption | (exact ⟨by decide, rfl⟩))) | assumption | (exact (hc_far (by omega)).trans (by assumption))) (by omega) (by first | rfl | assumption) (by first | (exact hc_ai (by omega) (by first | assumption | (exact (ht9 (by assumption)).2.1) | (exact (ht9 (by assumption)).2.2.1) | (exact (ht9 (by assumption)).2.2.2) | rfl) (by decide)) | assumption | (exact (hc_far (by omega)).trans (by assumption))) (Or.inl (by omega)) (by first | assumption | (exact ix_of (by omega) (by omega)) | (exact ⟨by decide, rfl, by decide⟩)) (by first | (exact hc_o (by first | assumption | (exact ⟨by decide, rfl⟩))) | assumption | (exact (hc_far (by omega)).trans (by assumption))) (by omega) (Nat.le_of_ble_eq_true rfl) ?_ ?_
  · intro z17
    refine hw_W (hw_I (by first | assumption | (exact ⟨by decide, rfl⟩)) (by decide)) ?_
    rw [hR1.1, h31, h41, h51, h61]
    have k2 := k1.go (i := y) hy
    have f2 := f1.sI (c := 9) (r := q) (k := 0) (v := Int32.ofNat y) (Or.inl ⟨rfl, rfl⟩)
    have g2 : (a1.sI 9 q 0 (Int32.ofNat y)).I 10 (p + 12) 4 = cfl l1 := g1
    have e2 : (a1.sI 9 q 0 (Int32.ofNat y)).I 7 p 6 = a.I 7 p 6 := e1
    generalize a1.sI 9 q 0 (Int32.ofNat y) = a2 at *
    have hR2 := k2.R
    have hqo2 := hR2.2.1
    have hqo25 := hqo2.1
    refine b_86_83 _ _ _ (by first | (exact hc_o (by first | assumption | (exact ⟨by decide, rfl⟩))) | assumption | (exact (hc_far (by omega)).trans (by assumption))) (by omega) (by first | rfl | assumption) (by first | (exact hc_o (by first | assumption | (exact ⟨by decide, rfl⟩))) | assumption | (exact (hc_far (by omega)).trans (by assumption))) (by omega) ?_
    rw [hR2.1]
    refine cv_bal hn hq hA hD ?_
    have hpos : ¬ r1 ≤ 0 := Int64.not_le.mpr (lg_gt.mp z17)
    have hb : a2.AL 9 q 2 (A * 4 + D) = Z.S.ac (A * 4 + D) := k2.2.2.2.1.2.2.2.1 _ (by omega)
    rw [hb]
    refine b_86_95 _ _ _ ?_
    refine cj_minl ?_
    have hpe : mv_pay 2 A B D y m Z r1 = mv_p2 2 A B D (mv_min r1 (Z.S.ac (A * 4 + D))) (mv_p1 A D y m Z r1) := by
      unfold mv_pay
      rw [if_neg hpos]
    have hp1 : mv_p1 A D y m Z r1 = if mv_min r1 (Z.S.ac (A * 4 + D)) < r1 then ((Z.go y).ac (A * 4 + D) (Z.S.ac (A * 4 + D) + -(mv_min r1 (Z.S.ac (A * 4 + D))))).wn 3 m else ((Z.go y).ac (A * 4 + D) (Z.S.ac (A * 4 + D) + -(mv_min r1 (Z.S.ac (A * 4 + D))))) := rfl
    generalize mv_min r1 (Z.S.ac (A * 4 + D)) = X0 at *
    generalize mv_p1 A D y m Z r1 = Z1 at *
    refine b_86_98 _ _ _ (by first | (exact hc_o (by first | assumption | (exact ⟨by decide, rfl⟩))) | assumption | (exact (hc_far (by omega)).trans (by assumption))) (by omega) (by first | rfl | assumption) (by first | (exact hc_o (by first | assumption | (exact ⟨by decide, rfl⟩))) | assumption | (exact (hc_far (by omega)).trans (by assumption))) (by omega) ?_
    rw [hR2.1]
    refine cs_add' hn hq hA hD hb (fun b1 _ => ?_)
    have k3 := k2.ac (j := A * 4 + D) (v := Z.S.ac (A * 4 + D) + -X0)
    have f3 := f2.sAL (c := 9) (r := q) (k := 2) (g := vp_updL (a2.AL 9 q 2) (A * 4 + D) (Z.S.ac (A * 4 + D) + -X0)) (Or.inl ⟨rfl, rfl⟩)
    have g3 : (a2.sAL 9 q 2 (vp_updL (a2.AL 9 q 2) (A * 4 + D) (Z.S.ac (A * 4 + D) + -X0))).I 10 (p + 12) 4 = cfl l1 := g2
    have e3 : (a2.sAL 9 q 2 (vp_updL (a2.AL 9 q 2) (A * 4 + D) (Z.S.ac (A * 4 + D) + -X0))).I 7 p 6 = a.I 7 p 6 := e2
    generalize a2.sAL 9 q 2 (vp_updL (a2.AL 9 q 2) (A * 4 + D) (Z.S.ac (A * 4 + D) + -X0)) = a3 at *
    refine b_86_114 _ _ _ ?_ ?_
    · intro z114
      rw [if_neg (lg_ge.mp z114)] at hp1
      obtain ⟨a4, f4, e4, g4, k4e, k4⟩ : ∃ a4, cMf p q a a4 ∧ a4.I 7 p 6 = a.I 7 p 6 ∧ a4.I 10 (p + 12) 4 = cfl l1 ∧ hc a4 f0 = hc a3 f0 ∧ cM a4 p q N tb lo hi Z1 := ⟨a3, f3, e3, g3, rfl, by rw [hp1]; exact k3⟩
      rw [← k4e]
      have hR4 := k4.R
      have hqo4 := hR4.2.1
      have hqo45 := hqo4.1
      have hrow4 := k4.row hm
      rw [hcm] at hrow4
      have h84 : a4.AI 2 3 8 m = 1 := hrow4.1 8 (by decide) (by decide)
      refine b_86_131 _ _ _ _ _ _ (by first | (exact hc_o (by first | assumption | (exact ⟨by decide, rfl⟩))) | assumption | (exact (hc_far (by omega)).trans (by assumption))) (by omega) (by first | rfl | assumption) (by first | (exact hc_o (by first | assumption | (exact ⟨by decide, rfl⟩))) | assumption | (exact (hc_far (by omega)).trans (by assumption))) (by omega) (by first | rfl | assumption) (by first | (exact hc_ai (by omega) (by first | assumption | (exact (ht9 (by assumption)).2.1) | (exact (ht9 (by assumption)).2.2.1) | (exact (ht9 (by assumption)).2.2.2) | rfl) (by decide)) | assumption | (exact (hc_far (by omega)).trans (by assumption))) (by omega) (by first | assumption | (exact ix_of (by omega) (by omega)) | (exact ⟨by decide, rfl, by decide⟩)) ?_ ?_
      · intro z131
        refine b_86_168 _ _ _ _ _ _ (by first | (exact hc_o (by first | assumption | (exact ⟨by decide, rfl⟩))) | assumption | (exact (hc_far (by omega)).trans (by assumption))) (by omega) (by first | rfl | assumption) (by first | (exact hc_o (by first | assumption | (exact ⟨by decide, rfl⟩))) | assumption | (exact (hc_far (by omega)).trans (by assumption))) (by omega) (by first | rfl | assumption) (by first | (exact hc_ai (by omega) (by first | assumption | (exact (ht9 (by assumption)).2.1) | (exact (ht9 (by assumption)).2.2.1) | (exact (ht9 (by assumption)).2.2.2) | rfl) (by decide)) | assumption | (exact (hc_far (by omega)).trans (by assumption))) (by omega) (by first | assumption | (exact ix_of (by omega) (by omega)) | (exact ⟨by decide, rfl, by decide⟩)) ?_ ?_
        · intro z168
          exact absurd z168 (by rw [h84]; decide)
        · intro z168
          refine b_86_180 _ _ _ (by first | (exact hc_o (by first | assumption | (exact ⟨by decide, rfl⟩))) | assumption | (exact (hc_far (by omega)).trans (by assumption))) (by omega) (by first | rfl | assumption) (by first | (exact hc_o (by first | assumption | (exact ⟨by decide, rfl⟩))) | assumption | (exact (hc_far (by omega)).trans (by assumption))) (by omega) ?_
          rw [hR4.1]
          refine cs_add' hn hq hB hD (k4.2.2.2.1.2.2.2.1 _ (by omega)) (fun b2 hb2 => ?_)
          have k5 := k4.ac (j := B * 4 + D) (v := Z1.S.ac (B * 4 + D) + X0)
          have f5 := f4.sAL (c := 9) (r := q) (k := 2) (g := vp_updL (a4.AL 9 q 2) (B * 4 + D) (Z1.S.ac (B * 4 + D) + X0)) (Or.inl ⟨rfl, rfl⟩)
          have g5 : (a4.sAL 9 q 2 (vp_updL (a4.AL 9 q 2) (B * 4 + D) (Z1.S.ac (B * 4 + D) + X0))).I 10 (p + 12) 4 = cfl l1 := g4
          have e5 : (a4.sAL 9 q 2 (vp_updL (a4.AL 9 q 2) (B * 4 + D) (Z1.S.ac (B * 4 + D) + X0))).I 7 p 6 = a.I 7 p 6 := e4
          generalize a4.sAL 9 q 2 (vp_updL (a4.AL 9 q 2) (B * 4 + D) (Z1.S.ac (B * 4 + D) + X0)) = a5 at *
          have hpe' : mv_pay 2 A B D y m Z r1 = (Z1.ac (B * 4 + D) (Z1.S.ac (B * 4 + D) + X0), mv_lm (Z1.S.ac (B * 4 + D) + X0)) := by
            rw [hpe]
            unfold mv_p2
            rw [if_neg (by decide)]
          refine b_86_193 _ _ _ ?_ ?_
          · intro z193
            have hlm : mv_lm (Z1.S.ac (B * 4 + D) + X0) = true := hb2.elim (fun h => h.2) (fun h => absurd h.1 z193)
            have KK := K r1 l1 a5 c1 f5 g5 (by rw [hpe']; exact k5) (Or.inl ⟨by rw [hpe']; exact hlm, e5⟩)
            refine b_86_202 _ _ _ ?_
            exact KK
          · intro z193
            have hlm : ¬ mv_lm (Z1.S.ac (B * 4 + D) + X0) = true := hb2.elim (fun h => absurd (h.1.symm.trans (Classical.not_not.mp z193)) (by decide)) (fun h => h.2)
            have KK := K r1 l1 (a5.sI 7 p 6 6) c1 (f5.sI (Or.inr (Or.inr (Or.inr ⟨rfl, rfl, rfl⟩)))) g5 (by rw [hpe']; exact k5.er) (Or.inr ⟨by rw [hpe']; exact hlm, mh_u_at (X := a5.I) (c := 7) (p := p) (k := 6) (v := 6)⟩)
            refine b_86_196 _ _ _ (by first | (exact hc_o (by first | assumption | (exact ⟨by decide, rfl⟩))) | assumption | (exact (hc_far (by omega)).trans (by assumption))) (by omega) (Nat.le_of_ble_eq_true rfl) ?_
            refine hw_W (hw_I (by first | assumption | (exact ⟨by decide, rfl⟩)) (by decide)) ?_
            refine b_86_202 _ _ _ ?_
            exact KK
      · intro z131
        exact absurd (Classical.not_not.mp z131) (by rw [h84]; decide)
    · intro z114
      rw [if_pos (Classical.not_not.mp (fun h => z114 (lg_ge.mpr h)))] at hp1
      refine b_86_122 _ _ _ (by first | (exact hc_o (by first | assumption | (exact ⟨by decide, rfl⟩))) | assumption | (exact (hc_far (by omega)).trans (by assumption))) (by omega) (by first | rfl | assumption) (by first | (exact hc_o (by first | assumption | (exact ⟨by decide, rfl⟩))) | assumption | (exact (hc_far (by omega)).trans (by assumption))) (by omega) ?_
      refine ce_warn (x := 3) hn k3 (fun a4 f4' e4' g4' k4' => ?_)
      have f4 := f3.trans f4'
      have e4 := e4'.trans e3
      have g4 := g4'.trans g3
      have k4 : cM a4 p q N tb lo hi Z1 := by rw [hp1]; exact k4'
      have hR4 := k4.R
      have hqo4 := hR4.2.1
      have hqo45 := hqo4.1
      have hrow4 := k4.row hm
      rw [hcm] at hrow4
      have h84 : a4.AI 2 3 8 m = 1 := hrow4.1 8 (by decide) (by decide)
      refine b_86_131 _ _ _ _ _ _ (by first | (exact hc_o (by first | assumption | (exact ⟨by decide, rfl⟩))) | assumption | (exact (hc_far (by omega)).trans (by assumption))) (by omega) (by first | rfl | assumption) (by first | (exact hc_o (by first | assumption | (exact ⟨by decide, rfl⟩))) | assumption | (exact (hc_far (by omega)).trans (by assumption))) (by omega) (by first | rfl | assumption) (by first | (exact hc_ai (by omega) (by first | assumption | (exact (ht9 (by assumption)).2.1) | (exact (ht9 (by assumption)).2.2.1) | (exact (ht9 (by assumption)).2.2.2) | rfl) (by decide)) | assumption | (exact (hc_far (by omega)).trans (by assumption))) (by omega) (by first | assumption | (exact ix_of (by omega) (by omega)) | (exact ⟨by decide, rfl, by decide⟩)) ?_ ?_
      · intro z131
        refine b_86_168 _ _ _ _ _ _ (by first | (exact hc_o (by first | assumption | (exact ⟨by decide, rfl⟩))) | assumption | (exact (hc_far (by omega)).trans (by assumption))) (by omega) (by first | rfl | assumption) (by first | (exact hc_o (by first | assumption | (exact ⟨by decide, rfl⟩))) | assumption | (exact (hc_far (by omega)).trans (by assumption))) (by omega) (by first | rfl | assumption) (by first | (exact hc_ai (by omega) (by first | assumption | (exact (ht9 (by assumption)).2.1) | (exact (ht9 (by assumption)).2.2.1) | (exact (ht9 (by assumption)).2.2.2) | rfl) (by decide)) | assumption | (exact (hc_far (by omega)).trans (by assumption))) (by omega) (by first | assumption | (exact ix_of (by omega) (by omega)) | (exact ⟨by decide, rfl, by decide⟩)) ?_ ?_
        · intro z168
          exact absurd z168 (by rw [h84]; decide)
        · intro z168
          refine b_86_180 _ _ _ (by first | (exact hc_o (by first | assumption | (exact ⟨by decide, rfl⟩))) | assumption | (exact (hc_far (by omega)).trans (by assumption))) (by omega) (by first | rfl | assumption) (by first | (exact hc_o (by first | assumption | (exact ⟨by decide, rfl⟩))) | assumption | (exact (hc_far (by omega)).trans (by assumption))) (by omega) ?_
          rw [hR4.1]
          refine cs_add' hn hq hB hD (k4.2.2.2.1.2.2.2.1 _ (by omega)) (fun b2 hb2 => ?_)
          have k5 := k4.ac (j := B * 4 + D) (v := Z1.S.ac (B * 4 + D) + X0)
          have f5 := f4.sAL (c := 9) (r := q) (k := 2) (g := vp_updL (a4.AL 9 q 2) (B * 4 + D) (Z1.S.ac (B * 4 + D) + X0)) (Or.inl ⟨rfl, rfl⟩)
          have g5 : (a4.sAL 9 q 2 (vp_updL (a4.AL 9 q 2) (B * 4 + D) (Z1.S.ac (B * 4 + D) + X0))).I 10 (p + 12) 4 = cfl l1 := g4
          have e5 : (a4.sAL 9 q 2 (vp_updL (a4.AL 9 q 2) (B * 4 + D) (Z1.S.ac (B * 4 + D) + X0))).I 7 p 6 = a.I 7 p 6 := e4
          generalize a4.sAL 9 q 2 (vp_updL (a4.AL 9 q 2) (B * 4 + D) (Z1.S.ac (B * 4 + D) + X0)) = a5 at *
          have hpe' : mv_pay 2 A B D y m Z r1 = (Z1.ac (B * 4 + D) (Z1.S.ac (B * 4 + D) + X0), mv_lm (Z1.S.ac (B * 4 + D) + X0)) := by
            rw [hpe]
            unfold mv_p2
            rw [if_neg (by decide)]
          refine b_86_193 _ _ _ ?_ ?_
          · intro z193
            have hlm : mv_lm (Z1.S.ac (B * 4 + D) + X0) = true := hb2.elim (fun h => h.2) (fun h => absurd h.1 z193)
            have KK := K r1 l1 a5 c1 f5 g5 (by rw [hpe']; exact k5) (Or.inl ⟨by rw [hpe']; exact hlm, e5⟩)
            refine b_86_202 _ _ _ ?_
            exact KK
          · intro z193
            have hlm : ¬ mv_lm (Z1.S.ac (B * 4 + D) + X0) = true := hb2.elim (fun h => absurd (h.1.symm.trans (Classical.not_not.mp z193)) (by decide)) (fun h => h.2)
            have KK := K r1 l1 (a5.sI 7 p 6 6) c1 (f5.sI (Or.inr (Or.inr (Or.inr ⟨rfl, rfl, rfl⟩)))) g5 (by rw [hpe']; exact k5.er) (Or.inr ⟨by rw [hpe']; exact hlm, mh_u_at (X := a5.I) (c := 7) (p := p) (k := 6) (v := 6)⟩)
            refine b_86_196 _ _ _ (by first | (exact hc_o (by first | assumption | (exact ⟨by decide, rfl⟩))) | assumption | (exact (hc_far (by omega)).trans (by assumption))) (by omega) (Nat.le_of_ble_eq_true rfl) ?_
            refine hw_W (hw_I (by first | assumption | (exact ⟨by decide, rfl⟩)) (by decide)) ?_
            refine b_86_202 _ _ _ ?_
            exact KK
      · intro z131
        exact absurd (Classical.not_not.mp z131) (by rw [h84]; decide)
  · intro z17
    refine hw_W (hw_I (by first | assumption | (exact ⟨by decide, rfl⟩)) (by decide)) ?_
    rw [hR1.1, h31, h41, h51, h61]
    have k2 := k1.go (i := y) hy
    have f2 := f1.sI (c := 9) (r := q) (k := 0) (v := Int32.ofNat y) (Or.inl ⟨rfl, rfl⟩)
    have g2 : (a1.sI 9 q 0 (Int32.ofNat y)).I 10 (p + 12) 4 = cfl l1 := g1
    have e2 : (a1.sI 9 q 0 (Int32.ofNat y)).I 7 p 6 = a.I 7 p 6 := e1
    generalize a1.sI 9 q 0 (Int32.ofNat y) = a2 at *
    have hR2 := k2.R
    have hqo2 := hR2.2.1
    have hqo25 := hqo2.1
    refine b_86_73 _ _ _ (by first | (exact hc_o (by first | assumption | (exact ⟨by decide, rfl⟩))) | assumption | (exact (hc_far (by omega)).trans (by assumption))) (by omega) (by first | rfl | assumption) (by first | (exact hc_o (by first | assumption | (exact ⟨by decide, rfl⟩))) | assumption | (exact (hc_far (by omega)).trans (by assumption))) (by omega) ?_
    refine ce_warn (x := 2) hn k2 (fun a3 f3 e3 g3 k3 => ?_)
    refine b_86_82 _ _ _ ?_
    have hle : r1 ≤ 0 := Int64.not_lt.mp (fun h => z17 (lg_gt.mpr h))
    have hpe : mv_pay 2 A B D y m Z r1 = ((Z.go y).wn 2 m, true) := by
      unfold mv_pay
      rw [if_pos hle]
    exact K r1 l1 a3 c1 (f2.trans f3) (g3.trans g2) (by rw [hpe]; exact k3) (Or.inl ⟨by rw [hpe], e3.trans e2⟩)
end
