/-! the second object: an input is taken -/
section
variable {d e n sl N BN : Nat} {b b0 b1 b2 : mg_A} {f0 : Nat → mi_C} {Q : (Option Value ⊕ Nat) → mi_H → Prop} {p q i j c k r m nd A B D x y z M F : Nat} {tb : Nat → ms_N} {lo hi v w u : Int64} {Z Z' : mv_Z} {wal : Bool} {bd : Nat → Int64 × Int64} {I : mv_I} {l5 : Int32} {o3 o5 o6 o7 o8 o9 : Option Value}
theorem gM.tk0 {g : Nat → Int64} (h : gM n b p N tb lo hi wal Z) (hw : ¬ wal = true) : gM n (b.sJ 549 g) p N tb lo hi wal Z := by
  obtain ⟨h1, h2, h3, hs, he, hl⟩ := h
  exact ⟨h1, h2, h3, hs, he, fun h => absurd h hw⟩
theorem g_267 (hn : 575 ≤ n) (h : gM n b p N tb lo hi wal Z) (hm : m < 800) (hy8 : y ≤ 800) (hy : b.I 516 m = Int32.ofNat y) (K : ∀ b', gMf p b b' → gM n b' p N tb lo hi wal (Z.go y) → b'.I 505 58 = b.I 505 58 → Q (.inl (some (.int 0))) (n, sl, hd b' f0)) : mi_W d 183 267 [some (.ref 505), some (.int (Int32.ofNat k)), some (.int (Int32.ofNat nd)), some (.int (Int32.ofNat m)), some (.int l5), o6, o7, o8, o9] [] (n, sl, hd b f0) Q := by
  obtain ⟨⟨hps, hpn⟩, -, -, ⟨hpo, -⟩, -⟩ := id h
  have hix := ix_of (w := m) (m := 800) (by omega) (by omega)
  refine b_183_267 _ _ _ _ _ _ (by first | (exact hd_9) | assumption) (by omega) (by exact (mL_get (by decide)).trans (congrArg some (by assumption))) (by first | (exact hd_9) | assumption) (by omega) (by exact mL_get (by decide)) (by first | (exact hd_I (by omega) rfl) | assumption) (Or.inl (by omega)) (by first | assumption | (exact ix_of (by omega) (by omega)) | (exact ⟨by decide, rfl, by decide⟩)) (by first | (exact hd_8 (by assumption)) | assumption) (by omega) (Nat.le_of_ble_eq_true rfl) ?_
  refine hw_Q (gw_at (by assumption)) ?_
  rw [hy]
  exact K _ gMf.re.sP (h.go hy8) rfl
theorem g_acc (hn : 575 ≤ n) (h : gM n b p N tb lo hi wal Z) (hw1 : Z.ws.1 < 148) (hk : k < 16) (ha : mz_a tb N m) (hv : b.J 555 k = v) (Kok : ∀ b' Z', mv_acc wal m v Z (tb m) = .ok Z' → gMf p b b' → gM n b' p N tb lo hi wal Z' → b'.I 505 58 = b.I 505 58 → Q (.inl (some (.int 0))) (n, sl, hd b' f0)) (Ker : ∀ b' x, mv_acc wal m v Z (tb m) = .error x → gMf p b b' → Q (.inl (some (.int (Int32.ofNat x)))) (n, sl, hd b' f0)) : mi_W (d + 1) 183 56 [some (.ref 505), some (.int (Int32.ofNat k)), some (.int (Int32.ofNat nd)), some (.int (Int32.ofNat m)), some (.int l5), o6, o7, o8, o9] [] (n, sl, hd b f0) Q := by
  obtain ⟨⟨hps, hpn⟩, ⟨hlo, hhi, hwal⟩, ⟨hN8, hrg, hto⟩, hSt, hev, hlf⟩ := id h
  have hpo := hSt.1
  have hac := hSt.2.2.2.1
  have ho := mz_so3 ⟨(tb m).1, mz_so33 ha.2.1 (by decide)⟩ ha.2.1
  dsimp only at ho
  have hrow := hrg _ ha.1
  have hmN := ha.1
  obtain ⟨-, -, had, -, hyk⟩ := ha
  rcases hcm : tb m with ⟨op, A, B, D, u, x, y, z, M, F⟩
  rw [hcm] at ho Kok Ker hrow had hyk
  unfold gRow at hrow
  unfold mz_ad at had
  dsimp only at ho hrow had hyk
  obtain ⟨w0, w1, w2, w3, w4, w5, w6, w7, w8, w9, w10, w11, w12, w13, w14⟩ := hrow
  have hixm := ix_of (w := m) (m := 800) (by omega) (by omega)
  have hixk := ix_of (w := k) (m := 16) (by omega) (by omega)
  have hy8 : y ≤ 800 := by have := (mz_un (k := 98) hyk).1; omega
  rcases ho with rfl | rfl | rfl
  · have a1 : b.I 510 m = Int32.ofNat A := w1 (by decide)
    have a2 : b.I 511 m = Int32.ofNat B := w2 (by decide)
    have a3 : b.I 512 m = Int32.ofNat D := w3 (by decide)
    have a8 : b.I 516 m = Int32.ofNat y := w8 (by decide)
    have hA : A < 8 := had.1 (by decide)
    have hB : B < 8 := had.2.1 (by decide)
    have hD : D < 4 := had.2.2 (by decide)
    have e7 := g_ix4 a1 a3
    have e8 := g_ix4 a2 a3
    have hix7 := ix_of (w := A * 4 + D) (m := 32) (by omega) (by omega)
    have hix8 := ix_of (w := B * 4 + D) (m := 32) (by omega) (by omega)
    have hacA := hac (A * 4 + D) (by omega)
    rw [mv_acc_7] at Kok Ker
    have fin : ¬ v ≤ 0 → ¬ (wal = true ∧ Z.lf (B * 4 + D) < v) → mi_W (d + 1) 183 156 [some (.ref 505), some (.int (Int32.ofNat k)), some (.int (Int32.ofNat nd)), some (.int (Int32.ofNat m)), some (.int l5), some (.long v), none, some (.int (Int32.ofNat (A * 4 + D))), some (.int (Int32.ofNat (B * 4 + D)))] [] (n, sl, hd b f0) Q := by
      intro hv0 hl7
      rw [if_neg hv0, if_neg hl7] at Kok Ker
      have k1 : gM n (b.sJ 549 (vp_updL (b.J 549) (B * 4 + D) (b.J 549 (B * 4 + D) + v))) p N tb lo hi wal (if wal = true then Z.tk (B * 4 + D) (Z.lf (B * 4 + D) - v) else Z) := by
        by_cases hw : wal = true
        · rw [if_pos hw]
          exact h.tk hw
        · rw [if_neg hw]
          exact h.tk0 hw
      have k2 := k1.ac (j := A * 4 + D) (v := Z.S.ac (A * 4 + D) + v)
      refine b_183_156 _ _ _ _ _ _ _ _ _ _ _ _ _ _ _ _ _ _ (by first | (exact hd_9) | assumption) (by omega) (by exact mL_get (by decide)) (by first | (exact hd_J (by omega) rfl) | (exact hd_L1 (by assumption)) | (exact hd_L2 (by assumption)) | (exact hd_L3 (by assumption)) | assumption) (by omega) (by first | assumption | (exact ix_of (by omega) (by omega)) | (exact ⟨by decide, rfl, by decide⟩)) (by first | (exact hd_J (by omega) rfl) | (exact hd_L1 (by assumption)) | (exact hd_L2 (by assumption)) | (exact hd_L3 (by assumption)) | assumption) (by omega) (by first | assumption | (exact ix_of (by omega) (by omega)) | (exact ⟨by decide, rfl, by decide⟩)) (by first | (exact (congrFun ((by first | exact gw_J (by omega) rfl | exact gw_L1 (by assumption) | exact gw_L2 (by assumption) | exact gw_L3 (by assumption))) _).trans (hd_9)) | assumption) (by omega) (by exact (mL_get (by decide)).trans (congrArg some (by assumption))) (by first | (exact (congrFun ((by first | exact gw_J (by omega) rfl | exact gw_L1 (by assumption) | exact gw_L2 (by assumption) | exact gw_L3 (by assumption))) _).trans (hd_8 (by assumption))) | assumption) (by omega) (by exact rfl) (by first | (exact (congrFun ((by first | exact gw_J (by omega) rfl | exact gw_L1 (by assumption) | exact gw_L2 (by assumption) | exact gw_L3 (by assumption))) _).trans (hd_J (by omega) rfl)) | (exact (congrFun ((by first | exact gw_J (by omega) rfl | exact gw_L1 (by assumption) | exact gw_L2 (by assumption) | exact gw_L3 (by assumption))) _).trans (hd_L1 (by assumption))) | (exact (congrFun ((by first | exact gw_J (by omega) rfl | exact gw_L1 (by assumption) | exact gw_L2 (by assumption) | exact gw_L3 (by assumption))) _).trans (hd_L2 (by assumption))) | (exact (congrFun ((by first | exact gw_J (by omega) rfl | exact gw_L1 (by assumption) | exact gw_L2 (by assumption) | exact gw_L3 (by assumption))) _).trans (hd_L3 (by assumption))) | assumption) (by omega) (by first | assumption | (exact ix_of (by omega) (by omega)) | (exact ⟨by decide, rfl, by decide⟩)) (by first | (exact (congrFun ((by first | exact gw_J (by omega) rfl | exact gw_L1 (by assumption) | exact gw_L2 (by assumption) | exact gw_L3 (by assumption))) _).trans (hd_J (by omega) rfl)) | (exact (congrFun ((by first | exact gw_J (by omega) rfl | exact gw_L1 (by assumption) | exact gw_L2 (by assumption) | exact gw_L3 (by assumption))) _).trans (hd_L1 (by assumption))) | (exact (congrFun ((by first | exact gw_J (by omega) rfl | exact gw_L1 (by assumption) | exact gw_L2 (by assumption) | exact gw_L3 (by assumption))) _).trans (hd_L2 (by assumption))) | (exact (congrFun ((by first | exact gw_J (by omega) rfl | exact gw_L1 (by assumption) | exact gw_L2 (by assumption) | exact gw_L3 (by assumption))) _).trans (hd_L3 (by assumption))) | assumption) (by omega) (by first | assumption | (exact ix_of (by omega) (by omega)) | (exact ⟨by decide, rfl, by decide⟩)) (by first | (exact (congrFun (hw_2 ((by first | exact gw_J (by omega) rfl | exact gw_L1 (by assumption) | exact gw_L2 (by assumption) | exact gw_L3 (by assumption))) ((by first | exact gw_J (by omega) rfl | exact gw_L1 (by assumption) | exact gw_L2 (by assumption) | exact gw_L3 (by assumption)))) _).trans (hd_9)) | assumption) (by omega) (by exact (mL_get (by decide)).trans (congrArg some (by assumption))) (by first | (exact (congrFun (hw_2 ((by first | exact gw_J (by omega) rfl | exact gw_L1 (by assumption) | exact gw_L2 (by assumption) | exact gw_L3 (by assumption))) ((by first | exact gw_J (by omega) rfl | exact gw_L1 (by assumption) | exact gw_L2 (by assumption) | exact gw_L3 (by assumption)))) _).trans (hd_8 (by assumption))) | assumption) (by omega) (by exact rfl) (by first | (exact (congrFun (hw_2 ((by first | exact gw_J (by omega) rfl | exact gw_L1 (by assumption) | exact gw_L2 (by assumption) | exact gw_L3 (by assumption))) ((by first | exact gw_J (by omega) rfl | exact gw_L1 (by assumption) | exact gw_L2 (by assumption) | exact gw_L3 (by assumption)))) _).trans (hd_J (by omega) rfl)) | (exact (congrFun (hw_2 ((by first | exact gw_J (by omega) rfl | exact gw_L1 (by assumption) | exact gw_L2 (by assumption) | exact gw_L3 (by assumption))) ((by first | exact gw_J (by omega) rfl | exact gw_L1 (by assumption) | exact gw_L2 (by assumption) | exact gw_L3 (by assumption)))) _).trans (hd_L1 (by assumption))) | (exact (congrFun (hw_2 ((by first | exact gw_J (by omega) rfl | exact gw_L1 (by assumption) | exact gw_L2 (by assumption) | exact gw_L3 (by assumption))) ((by first | exact gw_J (by omega) rfl | exact gw_L1 (by assumption) | exact gw_L2 (by assumption) | exact gw_L3 (by assumption)))) _).trans (hd_L2 (by assumption))) | (exact (congrFun (hw_2 ((by first | exact gw_J (by omega) rfl | exact gw_L1 (by assumption) | exact gw_L2 (by assumption) | exact gw_L3 (by assumption))) ((by first | exact gw_J (by omega) rfl | exact gw_L1 (by assumption) | exact gw_L2 (by assumption) | exact gw_L3 (by assumption)))) _).trans (hd_L3 (by assumption))) | assumption) (by omega) (by first | assumption | (exact ix_of (by omega) (by omega)) | (exact ⟨by decide, rfl, by decide⟩)) ?_ ?_
      · intro z156
        refine hw_W (hw_2 ((by first | exact gw_J (by omega) rfl | exact gw_L1 (by assumption) | exact gw_L2 (by assumption) | exact gw_L3 (by assumption))) ((by first | exact gw_J (by omega) rfl | exact gw_L1 (by assumption) | exact gw_L2 (by assumption) | exact gw_L3 (by assumption)))) ?_
        rw [show (b.sJ 549 (vp_updL (b.J 549) (B * 4 + D) (b.J 549 (B * 4 + D) + v))).L 1 p (A * 4 + D) = Z.S.ac (A * 4 + D) from hacA]
        rw [L_at, upL_at, show (b.sJ 549 (vp_updL (b.J 549) (B * 4 + D) (b.J 549 (B * 4 + D) + v))).L 1 p (A * 4 + D) = Z.S.ac (A * 4 + D) from hacA] at z156
        refine b_183_215 _ _ _ ?_
        first | (rw [if_neg (fun h => absurd (lg_gt.mp z156) (Int64.not_lt.mpr (of_decide_eq_true h).2))] at Ker; exact Ker _ 6 rfl (gMf.re.sJ (q := 549) (by decide) (by decide)).sL) | (rw [if_neg (fun h => z200 (lg_ge.mpr (Int64.not_lt.mpr (of_decide_eq_true h).1)))] at Ker; exact Ker _ 6 rfl (gMf.re.sJ (q := 549) (by decide) (by decide)).sL)
      · intro z156
        refine hw_W (hw_2 ((by first | exact gw_J (by omega) rfl | exact gw_L1 (by assumption) | exact gw_L2 (by assumption) | exact gw_L3 (by assumption))) ((by first | exact gw_J (by omega) rfl | exact gw_L1 (by assumption) | exact gw_L2 (by assumption) | exact gw_L3 (by assumption)))) ?_
        rw [show (b.sJ 549 (vp_updL (b.J 549) (B * 4 + D) (b.J 549 (B * 4 + D) + v))).L 1 p (A * 4 + D) = Z.S.ac (A * 4 + D) from hacA]
        rw [L_at, upL_at, show (b.sJ 549 (vp_updL (b.J 549) (B * 4 + D) (b.J 549 (B * 4 + D) + v))).L 1 p (A * 4 + D) = Z.S.ac (A * 4 + D) from hacA] at z156
        refine b_183_200 _ _ _ _ _ _ (by first | (exact hd_9) | assumption) (by omega) (by exact (mL_get (by decide)).trans (congrArg some (by assumption))) (by first | (exact hd_8 (by assumption)) | assumption) (by omega) (by exact rfl) (by first | (exact hd_J (by omega) rfl) | (exact hd_L1 (by assumption)) | (exact hd_L2 (by assumption)) | (exact hd_L3 (by assumption)) | assumption) (by omega) (by first | assumption | (exact ix_of (by omega) (by omega)) | (exact ⟨by decide, rfl, by decide⟩)) ?_ ?_
        · intro z200
          rw [L_at, upL_at] at z200
          refine b_183_218 _ _ _ ?_
          have hlm : mv_lm (Z.S.ac (A * 4 + D) + v) = true := decide_eq_true ⟨Int64.not_lt.mp (lg_ge.mp z200), Int64.not_lt.mp (fun h => z156 (lg_gt.mpr h))⟩
          rw [if_pos hlm] at Kok
          exact g_267 hn k2 (by omega) hy8 a8 (fun b' f' k' e' => Kok b' _ rfl ((gMf.re.sJ (q := 549) (by decide) (by decide)).sL.trans f') k' e')
        · intro z200
          rw [L_at, upL_at] at z200
          refine b_183_215 _ _ _ ?_
          first | (rw [if_neg (fun h => absurd (lg_gt.mp z156) (Int64.not_lt.mpr (of_decide_eq_true h).2))] at Ker; exact Ker _ 6 rfl (gMf.re.sJ (q := 549) (by decide) (by decide)).sL) | (rw [if_neg (fun h => z200 (lg_ge.mpr (Int64.not_lt.mpr (of_decide_eq_true h).1)))] at Ker; exact Ker _ 6 rfl (gMf.re.sJ (q := 549) (by decide) (by decide)).sL)
    refine b_183_56 _ _ _ _ _ _ (by first | (exact hd_9) | assumption) (by omega) (by exact mL_get (by decide)) (by first | (exact hd_I (by omega) rfl) | assumption) (Or.inl (by omega)) (by first | assumption | (exact ix_of (by omega) (by omega)) | (exact ⟨by decide, rfl, by decide⟩)) ?_ ?_
    · intro z56
      exact absurd w0 z56
    · intro z56
      refine b_183_67 _ _ _ _ _ _ _ _ _ _ _ _ _ _ _ _ _ _ (by first | (exact hd_9) | assumption) (by omega) (by exact mL_get (by decide)) (by first | (exact hd_J (by omega) rfl) | (exact hd_L1 (by assumption)) | (exact hd_L2 (by assumption)) | (exact hd_L3 (by assumption)) | assumption) (by omega) (by first | assumption | (exact ix_of (by omega) (by omega)) | (exact ⟨by decide, rfl, by decide⟩)) (by first | (exact hd_9) | assumption) (by omega) (by exact mL_get (by decide)) (by first | (exact hd_I (by omega) rfl) | assumption) (Or.inl (by omega)) (by first | assumption | (exact ix_of (by omega) (by omega)) | (exact ⟨by decide, rfl, by decide⟩)) (by first | (exact hd_9) | assumption) (by omega) (by exact mL_get (by decide)) (by first | (exact hd_I (by omega) rfl) | assumption) (Or.inl (by omega)) (by first | assumption | (exact ix_of (by omega) (by omega)) | (exact ⟨by decide, rfl, by decide⟩)) (by first | (exact hd_9) | assumption) (by omega) (by exact mL_get (by decide)) (by first | (exact hd_I (by omega) rfl) | assumption) (Or.inl (by omega)) (by first | assumption | (exact ix_of (by omega) (by omega)) | (exact ⟨by decide, rfl, by decide⟩)) (by first | (exact hd_9) | assumption) (by omega) (by exact mL_get (by decide)) (by first | (exact hd_I (by omega) rfl) | assumption) (Or.inl (by omega)) (by first | assumption | (exact ix_of (by omega) (by omega)) | (exact ⟨by decide, rfl, by decide⟩)) ?_ ?_
      · intro z67
        rw [hv, e7, e8]
        rw [hv] at z67
        have hv0 : ¬ v ≤ 0 := Int64.not_le.mpr (lg_gt.mp z67)
        refine b_183_125 _ _ _ (by first | (exact hd_9) | assumption) (by omega) (by exact mL_get (by decide)) ?_ ?_
        · intro z125
          have hw : ¬ wal = true := by cases wal with | false => decide | true => exact absurd (hwal.symm.trans z125) (by decide)
          first | exact fin hv0 (fun h => hw h.1) | exact fin hv0 (fun h => hl h.2)
        · intro z125
          have hw : wal = true := by cases wal with | true => rfl | false => exact absurd hwal z125
          refine b_183_132 _ _ _ _ _ _ _ _ _ (by first | (exact hd_9) | assumption) (by omega) (by exact mL_get (by decide)) (by first | (exact hd_J (by omega) rfl) | (exact hd_L1 (by assumption)) | (exact hd_L2 (by assumption)) | (exact hd_L3 (by assumption)) | assumption) (by omega) (by first | assumption | (exact ix_of (by omega) (by omega)) | (exact ⟨by decide, rfl, by decide⟩)) (by first | (exact hd_9) | assumption) (by omega) (by exact mL_get (by decide)) (by first | (exact hd_J (by omega) rfl) | (exact hd_L1 (by assumption)) | (exact hd_L2 (by assumption)) | (exact hd_L3 (by assumption)) | assumption) (by omega) (by first | assumption | (exact ix_of (by omega) (by omega)) | (exact ⟨by decide, rfl, by decide⟩)) ?_ ?_
          · intro z132
            have hl := lg_ge.mp z132
            rw [hlf hw _ (by omega)] at hl
            first | exact fin hv0 (fun h => hw h.1) | exact fin hv0 (fun h => hl h.2)
          · intro z132
            have hl := Classical.not_not.mp (fun h => z132 (lg_ge.mpr h))
            rw [hlf hw _ (by omega)] at hl
            refine b_183_153 _ _ _ ?_
            rw [if_neg hv0, if_pos ⟨hw, hl⟩] at Ker
            exact Ker _ 7 rfl gMf.re
      · intro z67
        rw [hv, e7, e8]
        rw [hv] at z67
        rw [if_pos (Int64.not_lt.mp (fun h => z67 (lg_gt.mpr h)))] at Kok
        refine b_183_116 _ _ _ (by first | (exact hd_9) | assumption) (by omega) ?_
        refine g_warn (x := 1) hn h hw1 (fun b1 f1 k1 e1 => ?_)
        refine b_183_122 _ _ _ ?_
        refine b_183_218 _ _ _ ?_
        exact g_267 hn k1 (by omega) hy8 ((congrFun (f1.2.1 516 (by decide)) _).trans a8) (fun b' f' k' e' => Kok b' _ rfl (f1.trans f') k' (e'.trans e1))
  · have a1 : b.I 510 m = Int32.ofNat A := w1 (by decide)
    have a8 : b.I 516 m = Int32.ofNat y := w8 (by decide)
    have hA : A < 8 := had.1 (by decide)
    have hi4 : mi_ix (b.I 510 m) 8 A := by
      rw [a1]
      exact ix_of (by omega) (by omega)
    have k1 := h.ch (c := A) (v := v)
    refine b_183_56 _ _ _ _ _ _ (by first | (exact hd_9) | assumption) (by omega) (by exact mL_get (by decide)) (by first | (exact hd_I (by omega) rfl) | assumption) (Or.inl (by omega)) (by first | assumption | (exact ix_of (by omega) (by omega)) | (exact ⟨by decide, rfl, by decide⟩)) ?_ ?_
    · intro z56
      refine b_183_221 _ _ _ _ _ _ (by first | (exact hd_9) | assumption) (by omega) (by exact mL_get (by decide)) (by first | (exact hd_I (by omega) rfl) | assumption) (Or.inl (by omega)) (by first | assumption | (exact ix_of (by omega) (by omega)) | (exact ⟨by decide, rfl, by decide⟩)) ?_ ?_
      · intro z221
        exact absurd w0 z221
      · intro z221
        refine b_183_232 _ _ _ _ _ _ _ _ _ _ _ _ _ _ _ _ _ _ (by first | (exact hd_9) | assumption) (by omega) (by exact (mL_get (by decide)).trans (congrArg some (by assumption))) (by first | (exact hd_8 (by assumption)) | assumption) (by omega) (by exact rfl) (by first | (exact hd_9) | assumption) (by omega) (by exact mL_get (by decide)) (by first | (exact hd_I (by omega) rfl) | assumption) (Or.inl (by omega)) (by first | assumption | (exact ix_of (by omega) (by omega)) | (exact ⟨by decide, rfl, by decide⟩)) (by first | (exact hd_P4 (by assumption)) | (exact hd_P5 (by assumption)) | assumption) (by omega) (by first | assumption | (exact ix_of (by omega) (by omega)) | (exact ⟨by decide, rfl, by decide⟩)) (by first | (exact (congrFun ((by first | exact gw_P4 (by assumption) | exact gw_P5 (by assumption))) _).trans (hd_9)) | assumption) (by omega) (by exact (mL_get (by decide)).trans (congrArg some (by assumption))) (by first | (exact (congrFun ((by first | exact gw_P4 (by assumption) | exact gw_P5 (by assumption))) _).trans (hd_8 (by assumption))) | assumption) (by omega) (by exact rfl) (by first | (exact (congrFun ((by first | exact gw_P4 (by assumption) | exact gw_P5 (by assumption))) _).trans (hd_9)) | assumption) (by omega) (by exact mL_get (by decide)) (by first | (exact (congrFun ((by first | exact gw_P4 (by assumption) | exact gw_P5 (by assumption))) _).trans (hd_I (by omega) rfl)) | assumption) (Or.inl (by omega)) (by first | assumption | (exact ix_of (by omega) (by omega)) | (exact ⟨by decide, rfl, by decide⟩)) (by first | (exact (congrFun ((by first | exact gw_P4 (by assumption) | exact gw_P5 (by assumption))) _).trans (hd_9)) | assumption) (by omega) (by exact mL_get (by decide)) (by first | (exact (congrFun ((by first | exact gw_P4 (by assumption) | exact gw_P5 (by assumption))) _).trans (hd_J (by omega) rfl)) | (exact (congrFun ((by first | exact gw_P4 (by assumption) | exact gw_P5 (by assumption))) _).trans (hd_L1 (by assumption))) | (exact (congrFun ((by first | exact gw_P4 (by assumption) | exact gw_P5 (by assumption))) _).trans (hd_L2 (by assumption))) | (exact (congrFun ((by first | exact gw_P4 (by assumption) | exact gw_P5 (by assumption))) _).trans (hd_L3 (by assumption))) | assumption) (by omega) (by first | assumption | (exact ix_of (by omega) (by omega)) | (exact ⟨by decide, rfl, by decide⟩)) (by first | (exact (congrFun ((by first | exact gw_P4 (by assumption) | exact gw_P5 (by assumption))) _).trans (hd_J (by omega) rfl)) | (exact (congrFun ((by first | exact gw_P4 (by assumption) | exact gw_P5 (by assumption))) _).trans (hd_L1 (by assumption))) | (exact (congrFun ((by first | exact gw_P4 (by assumption) | exact gw_P5 (by assumption))) _).trans (hd_L2 (by assumption))) | (exact (congrFun ((by first | exact gw_P4 (by assumption) | exact gw_P5 (by assumption))) _).trans (hd_L3 (by assumption))) | assumption) (by omega) (by first | assumption | (exact ix_of (by omega) (by omega)) | (exact ⟨by decide, rfl, by decide⟩)) ?_
        refine hw_W (hw_2 ((by first | exact gw_P4 (by assumption) | exact gw_P5 (by assumption))) ((by first | exact gw_J (by omega) rfl | exact gw_L1 (by assumption) | exact gw_L2 (by assumption) | exact gw_L3 (by assumption)))) ?_
        rw [show (vp_nar .boolean 1) = 1 from rfl]
        rw [show (b.sP 4 p (upd (b.P 4 p) A 1)).J 555 k = v from hv]
        exact g_267 hn k1 (by omega) hy8 a8 (fun b' f' k' e' => Kok b' _ rfl (gMf.re.sP.sL.trans f') k' e')
    · intro z56
      exact absurd (Classical.not_not.mp z56) (by rw [w0]; decide)
  · have a8 : b.I 516 m = Int32.ofNat y := w8 (by decide)
    refine b_183_56 _ _ _ _ _ _ (by first | (exact hd_9) | assumption) (by omega) (by exact mL_get (by decide)) (by first | (exact hd_I (by omega) rfl) | assumption) (Or.inl (by omega)) (by first | assumption | (exact ix_of (by omega) (by omega)) | (exact ⟨by decide, rfl, by decide⟩)) ?_ ?_
    · intro z56
      refine b_183_221 _ _ _ _ _ _ (by first | (exact hd_9) | assumption) (by omega) (by exact mL_get (by decide)) (by first | (exact hd_I (by omega) rfl) | assumption) (Or.inl (by omega)) (by first | assumption | (exact ix_of (by omega) (by omega)) | (exact ⟨by decide, rfl, by decide⟩)) ?_ ?_
      · intro z221
        exact g_267 hn h (by omega) hy8 a8 (fun b' f' k' e' => Kok b' _ rfl f' k' e')
      · intro z221
        exact absurd (Classical.not_not.mp z221) (by rw [w0]; decide)
    · intro z56
      exact absurd (Classical.not_not.mp z56) (by rw [w0]; decide)
theorem g_tkl (hn : 575 ≤ n) (hS : mv_ok Z.S) (hw1 : Z.ws.1 < 148) (hk : k < 16) : ∀ (t pm m : Nat) (b : mg_A) (o5 o6 o7 o8 o9 : Option Value), mz_ls tb N (mz_ok tb N 99) t pm m → gM n b p N tb lo hi wal Z → gBd b BN bd tb → gIn b k I → (∀ b' Z', mv_tks tb bd wal (mv_E tb Z.S lo hi 100) I Z t m = .ok Z' → gMf p b b' → gM n b' p N tb lo hi wal Z' → b'.I 505 58 = b.I 505 58 → Q (.inl (some (.int 0))) (n, sl, hd b' f0)) → (∀ b' x, mv_tks tb bd wal (mv_E tb Z.S lo hi 100) I Z t m = .error x → gMf p b b' → Q (.inl (some (.int (Int32.ofNat x)))) (n, sl, hd b' f0)) → mi_W (e + 104) 183 27 [some (.ref 505), some (.int (Int32.ofNat k)), some (.int (Int32.ofNat nd)), some (.int (mz_lk m)), o5, o6, o7, o8, o9] [] (n, sl, hd b f0) Q := by
  intro t
  induction t with
  | zero =>
    intro pm m b o5 o6 o7 o8 o9 hl h hb hI Kok Ker
    have hm0 : m = 0 := hl
    subst hm0
    refine b_183_27 _ _ _ ?_ ?_
    · intro z27
      refine b_183_292 _ _ _ ?_
      exact Ker b 4 rfl gMf.re
    · intro z27
      exact absurd (by decide) z27
  | succ t ih =>
    intro pm m b o5 o6 o7 o8 o9 hl h hb hI Kok Ker
    rw [mv_tks_s] at Kok Ker
    by_cases hm0 : m = 0
    · rw [if_pos hm0] at Kok Ker
      subst hm0
      refine b_183_27 _ _ _ ?_ ?_
      · intro z27
        refine b_183_292 _ _ _ ?_
        exact Ker b 4 rfl gMf.re
      · intro z27
        exact absurd (by decide) z27
    · rw [if_neg hm0] at Kok Ker
      have hl' : m = 0 ∨ _ := hl
      obtain ⟨hpm, hmN, hso, had, hx, hy, hfm, hls⟩ := hl'.resolve_left hm0
      have ha : mz_a tb N m := ⟨hmN, hso, had, fun h => (hx h).2, hy.2⟩
      have hN8 := h.2.2.1.1
      have h12 : ∀ b1, gMf p b b1 → b1.I 529 m = mz_lk (tb m).2.2.2.2.2.2.2.1 := fun b1 f1 => by
        have hrow := (h.2.2.1.2.1 m hmN)
        have ho := mz_so3 ⟨(tb m).1, mz_so33 hso (by decide)⟩ hso
        dsimp only at ho
        rw [f1.2.1 529 (by decide)]
        refine hrow.2.2.2.2.2.2.2.2.2.2.2.2.1 ?_
        rcases ho with ho | ho | ho <;> rw [ho] <;> decide
      have hixm := ix_of (w := m) (m := 800) (by omega) (by omega)
      rw [mz_lk0 hm0]
      refine b_183_27 _ _ _ ?_ ?_
      · intro z27
        exact absurd z27 (of_nn (by omega))
      · intro z27
        refine b_183_31 _ _ _ (by first | (exact hd_9) | assumption) (by omega) ?_
        refine g_fits (e := e) hn h hS ha hb hk hI (fun b1 f1 k1 e1 => ?_)
        have h121 := h12 b1 f1
        cases hf : mv_fits bd (mv_E tb Z.S lo hi 100) I (tb m) with
        | none =>
          rw [hf] at Ker
          refine b_183_37 _ _ _ ?_ ?_
          · intro z37
            exact absurd z37 (by decide)
          · intro z37
            refine b_183_45 _ _ _ ?_
            exact Ker b1 6 rfl f1
        | some bb =>
        rw [hf] at Kok Ker
        have hg : gft (some bb) = cvt bb := by cases bb <;> rfl
        rw [hg]
        refine b_183_37 _ _ _ ?_ ?_
        · intro z37
          refine b_183_48 _ _ _ ?_ ?_
          · intro z48
            have hbb : bb = true := by cases bb with | true => rfl | false => exact absurd rfl z48
            subst hbb
            exact g_acc hn k1 hw1 hk ha ((congrFun (f1.2.2.1 555 (by decide)) _).trans hI.2.2.2.2) (fun b2 Z2 hz f2 k2 e2 => Kok b2 Z2 hz (f1.trans f2) k2 (e2.trans e1)) (fun b2 x hz f2 => Ker b2 x hz (f1.trans f2))
          · intro z48
            have hbb : bb = false := by cases bb with | false => rfl | true => exact absurd (Classical.not_not.mp z48) (by decide)
            subst hbb
            refine b_183_53 _ _ _ ?_
            refine b_183_282 _ _ _ _ _ _ (by first | (exact hd_9) | assumption) (by omega) (by exact mL_get (by decide)) (by first | (exact hd_I (by omega) rfl) | assumption) (Or.inl (by omega)) (by first | assumption | (exact ix_of (by omega) (by omega)) | (exact ⟨by decide, rfl, by decide⟩)) ?_
            rw [h121]
            exact ih m _ b1 _ _ _ _ _ hls k1 (hb.mf f1) (hI.mf f1) (fun b2 Z2 hz f2 k2 e2 => Kok b2 Z2 hz (f1.trans f2) k2 (e2.trans e1)) (fun b2 x hz f2 => Ker b2 x hz (f1.trans f2))
        · intro z37
          exact absurd (by cases bb <;> decide) z37
theorem g_take (hn : 575 ≤ n) (h : gM n b p N tb lo hi wal Z) (hS : mv_ok Z.S) (hw1 : Z.ws.1 < 148) (hok : mz_ok tb N 100 0 Z.S.at) (hk : k < 16) (hb : gBd b BN bd tb) (hI : gIn b k I) (Kok : ∀ b' Z', mv_take tb bd wal lo hi I Z = .ok Z' → gMf p b b' → gM n b' p N tb lo hi wal Z' → b'.I 505 58 = b.I 505 58 → Q (.inl (some (.int 0))) (n, sl, hd b' f0)) (Ker : ∀ b' x, mv_take tb bd wal lo hi I Z = .error x → gMf p b b' → Q (.inl (some (.int (Int32.ofNat x)))) (n, sl, hd b' f0)) : mi_W (e + 104) 183 0 (mi_en 9 [.ref 505, .int (Int32.ofNat k)]) [] (n, sl, hd b f0) Q := by
  obtain ⟨⟨hps, hpn⟩, -, ⟨hN8, hrg, -⟩, hSt, -⟩ := id h
  have hpo := hSt.1
  have hm : Z.S.at < N := mz_u1 hok
  have hat : b.P 0 p 0 = Int32.ofNat Z.S.at := hSt.2.1.1
  have hrow := hrg _ hm
  have hso := (mz_un (k := 99) hok).2.1
  have hix : mi_ix (b.P 0 p 0) 800 Z.S.at := by
    rw [hat]
    exact ix_of (by omega) (by omega)
  have hix2 := ix_of (w := Z.S.at) (m := 800) (by omega) (by omega)
  have h33 := mz_so33 hso (by decide)
  unfold mv_take at Kok Ker
  by_cases h4 : (tb Z.S.at).1 = 4
  · rw [if_pos h4] at Kok Ker
    have h7 : b.I 514 Z.S.at = mz_lk (tb Z.S.at).2.2.2.2.2.1 := hrow.2.2.2.2.2.2.2.1 (by rw [h4]; decide)
    have hls := (mz_un (k := 99) hok).2.2.2.2.1 (by rw [h4]; decide)
    refine b_183_0 _ _ _ _ _ _ (by first | (exact hd_9) | assumption) (by omega) (by exact (mL_get (by decide)).trans (congrArg some (by assumption))) (by first | (exact hd_8 (by assumption)) | assumption) (by omega) (by exact rfl) (by first | (exact hd_9) | assumption) (by omega) (by exact mL_get (by decide)) (by first | (exact hd_I (by omega) rfl) | assumption) (Or.inl (by omega)) (by first | assumption | (exact ix_of (by omega) (by omega)) | (exact ⟨by decide, rfl, by decide⟩)) ?_ ?_
    · intro z0
      rw [hat]
      refine b_183_20 _ _ _ _ _ _ (by first | (exact hd_9) | assumption) (by omega) (by exact mL_get (by decide)) (by first | (exact hd_I (by omega) rfl) | assumption) (Or.inl (by omega)) (by first | assumption | (exact ix_of (by omega) (by omega)) | (exact ⟨by decide, rfl, by decide⟩)) ?_
      rw [h7]
      exact g_tkl hn hS hw1 hk 8 _ _ b _ _ _ _ _ hls h hb hI Kok Ker
    · intro z0
      exact absurd (by rw [hrow.1, h4]; rfl) z0
  · rw [if_neg h4] at Kok Ker
    refine b_183_0 _ _ _ _ _ _ (by first | (exact hd_9) | assumption) (by omega) (by exact (mL_get (by decide)).trans (congrArg some (by assumption))) (by first | (exact hd_8 (by assumption)) | assumption) (by omega) (by exact rfl) (by first | (exact hd_9) | assumption) (by omega) (by exact mL_get (by decide)) (by first | (exact hd_I (by omega) rfl) | assumption) (Or.inl (by omega)) (by first | assumption | (exact ix_of (by omega) (by omega)) | (exact ⟨by decide, rfl, by decide⟩)) ?_ ?_
    · intro z0
      exact absurd ((of_eq (a := (tb Z.S.at).1) (b := 4) (by omega) (by omega)).mp (hrow.1.symm.trans z0)) h4
    · intro z0
      rw [hat]
      refine b_183_18 _ _ _ ?_
      exact Ker b 4 rfl gMf.re
end
