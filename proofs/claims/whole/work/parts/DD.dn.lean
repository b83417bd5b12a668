/-! the first object: an input is accepted -/
section
variable {d e n sl N : Nat} {a a0 a1 a2 : mh_A} {f0 : Nat → mi_C} {Q : (Option Value ⊕ Nat) → mi_H → Prop} {p q i j c k r m ip BN : Nat} {tb : Nat → ms_N} {lo hi v w : Int64} {Z : mv_Z} {bd : Nat → Int64 × Int64} {I : mv_I} {wal : Bool}
theorem mv_acc_7 {A B D x y z : Nat} {u : Int64} {t : Nat × Nat} : mv_acc wal m v Z (7, A, B, D, u, x, y, z, t) = (if v ≤ 0 then .ok ((Z.wn 1 m).go y) else if wal = true ∧ Z.lf (B * 4 + D) < v then .error 7 else if mv_lm (Z.S.ac (A * 4 + D) + v) = true then .ok (((if wal = true then Z.tk (B * 4 + D) (Z.lf (B * 4 + D) - v) else Z).ac (A * 4 + D) (Z.S.ac (A * 4 + D) + v)).go y) else .error 6) := by
  unfold mv_acc
  dsimp only
  rw [if_neg (by decide), if_neg (by decide)]
theorem cm_a8 {A B D x y z : Nat} {u : Int64} {t : Nat × Nat} (hn : 575 ≤ n) (h : cM a p q N tb lo hi Z) (ha : mz_a tb N m) (hcm : tb m = (8, A, B, D, u, x, y, z, t)) (K : ∀ a', cMf p q a a' → a'.I 10 (p + 12) 4 = a.I 10 (p + 12) 4 → cRs a p q N tb lo hi a' (mv_acc wal m v Z (8, A, B, D, u, x, y, z, t)) → Q (.inl none) (n, sl, hc a' f0)) : mi_W (e + 3) 108 0 (mi_en 5 [.ref p, .int (Int32.ofNat m), .long v]) [] (n, sl, hc a f0) Q := by
  obtain ⟨hR, hqo, hq, hp68, hpo, hro, heo⟩ := h.R
  have hq5 := hq.1
  have hqo5 := hqo.1
  have hN8 := h.2.2.1.1.2
  have ha' := ha
  obtain ⟨hm, -, had, -, hyk⟩ := ha
  have hrow := h.row hm
  rw [hcm] at hrow had hyk
  unfold mz_ad at had
  dsimp only at had hyk
  have hyN := mz_u1 (mz_dn hyk)
  have h0 : a.AI 2 3 0 m = 9 := hrow.1 0 (by decide) (by decide)
  have h2 : a.AI 2 3 2 m = Int32.ofNat y := hrow.1 2 (by decide) (by decide)
  have hix := ix_of (w := m) (m := 800) (by omega) (by omega)
  have hA := had.1 (by decide)
  have h4 : a.AI 2 3 4 m = Int32.ofNat A := hrow.1 4 (by decide) (by decide)
  refine b_108_0 _ _ _ _ _ _ (by first | (exact hc_o (by first | assumption | (exact ⟨by decide, rfl⟩))) | assumption | (exact (hc_far (by omega)).trans (by assumption))) (by omega) (by first | rfl | assumption) (by first | (exact hc_o (by first | assumption | (exact ⟨by decide, rfl⟩))) | assumption | (exact (hc_far (by omega)).trans (by assumption))) (by omega) (by first | rfl | assumption) (by first | (exact hc_ai (by omega) (by first | assumption | (exact (ht9 (by assumption)).2.1) | (exact (ht9 (by assumption)).2.2.1) | (exact (ht9 (by assumption)).2.2.2) | rfl) (by decide)) | assumption | (exact (hc_far (by omega)).trans (by assumption))) (Or.inl (by omega)) (by first | assumption | (exact ix_of (by omega) (by omega)) | (exact ⟨by decide, rfl, by decide⟩)) ?_ ?_
  · intro z0
    exact absurd h0 z0
  · intro z0
    refine b_108_18 _ _ _ _ _ _ (by first | (exact hc_o (by first | assumption | (exact ⟨by decide, rfl⟩))) | assumption | (exact (hc_far (by omega)).trans (by assumption))) (by omega) (by first | rfl | assumption) (by first | (exact hc_o (by first | assumption | (exact ⟨by decide, rfl⟩))) | assumption | (exact (hc_far (by omega)).trans (by assumption))) (by omega) (by first | rfl | assumption) (by first | (exact hc_o (by first | assumption | (exact ⟨by decide, rfl⟩))) | assumption | (exact (hc_far (by omega)).trans (by assumption))) (by omega) (by first | rfl | assumption) (by first | (exact hc_ai (by omega) (by first | assumption | (exact (ht9 (by assumption)).2.1) | (exact (ht9 (by assumption)).2.2.1) | (exact (ht9 (by assumption)).2.2.2) | rfl) (by decide)) | assumption | (exact (hc_far (by omega)).trans (by assumption))) (Or.inl (by omega)) (by first | assumption | (exact ix_of (by omega) (by omega)) | (exact ⟨by decide, rfl, by decide⟩)) (by first | (exact hc_o (by first | assumption | (exact ⟨by decide, rfl⟩))) | assumption | (exact (hc_far (by omega)).trans (by assumption))) (by omega) ?_
    rw [hR, h4]
    refine cs_sc hn hq hA ?_
    have k1 := h.ch (v := v) hA
    have f1 := ((cMf.re (p := p) (q := q) (a := a)).sAL (c := 9) (r := q) (k := 3) (g := vp_updL (a.AL 9 q 3) A v) (Or.inl ⟨rfl, rfl⟩)).sI (c := 9) (r := q) (k := 5) (v := a.I 9 q 5 ||| (1 <<< (Int32.ofNat A &&& 31))) (Or.inl ⟨rfl, rfl⟩)
    have e1 : ((a.sAL 9 q 3 (vp_updL (a.AL 9 q 3) A v)).sI 9 q 5 (a.I 9 q 5 ||| (1 <<< (Int32.ofNat A &&& 31)))).I 7 p 6 = a.I 7 p 6 := rfl
    have g1 : ((a.sAL 9 q 3 (vp_updL (a.AL 9 q 3) A v)).sI 9 q 5 (a.I 9 q 5 ||| (1 <<< (Int32.ofNat A &&& 31)))).I 10 (p + 12) 4 = a.I 10 (p + 12) 4 := rfl
    have h21 : ((a.sAL 9 q 3 (vp_updL (a.AL 9 q 3) A v)).sI 9 q 5 (a.I 9 q 5 ||| (1 <<< (Int32.ofNat A &&& 31)))).AI 2 3 2 m = Int32.ofNat y := h2
    generalize (a.sAL 9 q 3 (vp_updL (a.AL 9 q 3) A v)).sI 9 q 5 (a.I 9 q 5 ||| (1 <<< (Int32.ofNat A &&& 31))) = a1 at *
    have hR1 := k1.R
    have hqo1 := hR1.2.1
    have hqo15 := hqo1.1
    refine b_108_35 _ _ _ ?_
    refine b_108_76 _ _ _ _ _ _ (by first | (exact hc_o (by first | assumption | (exact ⟨by decide, rfl⟩))) | assumption | (exact (hc_far (by omega)).trans (by assumption))) (by omega) (by first | rfl | assumption) (by first | (exact hc_o (by first | assumption | (exact ⟨by decide, rfl⟩))) | assumption | (exact (hc_far (by omega)).trans (by assumption))) (by omega) (by first | rfl | assumption) (by first | (exact hc_o (by first | assumption | (exact ⟨by decide, rfl⟩))) | assumption | (exact (hc_far (by omega)).trans (by assumption))) (by omega) (by first | rfl | assumption) (by first | (exact hc_ai (by omega) (by first | assumption | (exact (ht9 (by assumption)).2.1) | (exact (ht9 (by assumption)).2.2.1) | (exact (ht9 (by assumption)).2.2.2) | rfl) (by decide)) | assumption | (exact (hc_far (by omega)).trans (by assumption))) (Or.inl (by omega)) (by first | assumption | (exact ix_of (by omega) (by omega)) | (exact ⟨by decide, rfl, by decide⟩)) (by first | (exact hc_o (by first | assumption | (exact ⟨by decide, rfl⟩))) | assumption | (exact (hc_far (by omega)).trans (by assumption))) (by omega) (Nat.le_of_ble_eq_true rfl) ?_
    refine hw_Q (hw_I (by first | assumption | (exact ⟨by decide, rfl⟩)) (by decide)) ?_
    rw [hR1.1, h21]
    exact K _ (f1.sI (Or.inl ⟨rfl, rfl⟩)) g1 ⟨k1.go (by omega), e1⟩
theorem cm_a9 {A B D x y z : Nat} {u : Int64} {t : Nat × Nat} (hn : 575 ≤ n) (h : cM a p q N tb lo hi Z) (ha : mz_a tb N m) (hcm : tb m = (9, A, B, D, u, x, y, z, t)) (K : ∀ a', cMf p q a a' → a'.I 10 (p + 12) 4 = a.I 10 (p + 12) 4 → cRs a p q N tb lo hi a' (mv_acc wal m v Z (9, A, B, D, u, x, y, z, t)) → Q (.inl none) (n, sl, hc a' f0)) : mi_W (e + 3) 108 0 (mi_en 5 [.ref p, .int (Int32.ofNat m), .long v]) [] (n, sl, hc a f0) Q := by
  obtain ⟨hR, hqo, hq, hp68, hpo, hro, heo⟩ := h.R
  have hq5 := hq.1
  have hqo5 := hqo.1
  have hN8 := h.2.2.1.1.2
  have ha' := ha
  obtain ⟨hm, -, had, -, hyk⟩ := ha
  have hrow := h.row hm
  rw [hcm] at hrow had hyk
  unfold mz_ad at had
  dsimp only at had hyk
  have hyN := mz_u1 (mz_dn hyk)
  have h0 : a.AI 2 3 0 m = 10 := hrow.1 0 (by decide) (by decide)
  have h2 : a.AI 2 3 2 m = Int32.ofNat y := hrow.1 2 (by decide) (by decide)
  have hix := ix_of (w := m) (m := 800) (by omega) (by omega)
  refine b_108_0 _ _ _ _ _ _ (by first | (exact hc_o (by first | assumption | (exact ⟨by decide, rfl⟩))) | assumption | (exact (hc_far (by omega)).trans (by assumption))) (by omega) (by first | rfl | assumption) (by first | (exact hc_o (by first | assumption | (exact ⟨by decide, rfl⟩))) | assumption | (exact (hc_far (by omega)).trans (by assumption))) (by omega) (by first | rfl | assumption) (by first | (exact hc_ai (by omega) (by first | assumption | (exact (ht9 (by assumption)).2.1) | (exact (ht9 (by assumption)).2.2.1) | (exact (ht9 (by assumption)).2.2.2) | rfl) (by decide)) | assumption | (exact (hc_far (by omega)).trans (by assumption))) (Or.inl (by omega)) (by first | assumption | (exact ix_of (by omega) (by omega)) | (exact ⟨by decide, rfl, by decide⟩)) ?_ ?_
  · intro z0
    refine b_108_38 _ _ _ ?_ ?_
    · intro z38
      refine b_108_63 _ _ _ ?_ ?_
      · intro z63
        refine b_108_76 _ _ _ _ _ _ (by first | (exact hc_o (by first | assumption | (exact ⟨by decide, rfl⟩))) | assumption | (exact (hc_far (by omega)).trans (by assumption))) (by omega) (by first | rfl | assumption) (by first | (exact hc_o (by first | assumption | (exact ⟨by decide, rfl⟩))) | assumption | (exact (hc_far (by omega)).trans (by assumption))) (by omega) (by first | rfl | assumption) (by first | (exact hc_o (by first | assumption | (exact ⟨by decide, rfl⟩))) | assumption | (exact (hc_far (by omega)).trans (by assumption))) (by omega) (by first | rfl | assumption) (by first | (exact hc_ai (by omega) (by first | assumption | (exact (ht9 (by assumption)).2.1) | (exact (ht9 (by assumption)).2.2.1) | (exact (ht9 (by assumption)).2.2.2) | rfl) (by decide)) | assumption | (exact (hc_far (by omega)).trans (by assumption))) (Or.inl (by omega)) (by first | assumption | (exact ix_of (by omega) (by omega)) | (exact ⟨by decide, rfl, by decide⟩)) (by first | (exact hc_o (by first | assumption | (exact ⟨by decide, rfl⟩))) | assumption | (exact (hc_far (by omega)).trans (by assumption))) (by omega) (Nat.le_of_ble_eq_true rfl) ?_
        refine hw_Q (hw_I (by first | assumption | (exact ⟨by decide, rfl⟩)) (by decide)) ?_
        rw [hR, h2]
        exact K _ (cMf.re.sI (Or.inl ⟨rfl, rfl⟩)) rfl ⟨h.go (by omega), rfl⟩
      · intro z63
        exact absurd (h0.symm.trans (Classical.not_not.mp z63)) (by decide)
    · intro z38
      exact absurd (h0.symm.trans (Classical.not_not.mp z38)) (by decide)
  · intro z0
    exact absurd (h0.symm.trans (Classical.not_not.mp z0)) (by decide)
theorem cm_a7_41 {A B D x y z : Nat} {u : Int64} {t : Nat × Nat} (hn : 575 ≤ n) (h : cM a 41 q N tb lo hi Z) (ha : mz_a tb N m) (hcm : tb m = (7, A, B, D, u, x, y, z, t)) (K : ∀ a', cMf 41 q a a' → a'.I 10 (41 + 12) 4 = a.I 10 (41 + 12) 4 → cRs a 41 q N tb lo hi a' (mv_acc true m v Z (7, A, B, D, u, x, y, z, t)) → Q (.inl none) (n, sl, hc a' f0)) : mi_W (e + 3) 108 0 (mi_en 5 [.ref 41, .int (Int32.ofNat m), .long v]) [] (n, sl, hc a f0) Q := by
  obtain ⟨hR, hqo, hq, hp68, hpo, hro, heo⟩ := h.R
  have hq5 := hq.1
  have hqo5 := hqo.1
  have hN8 := h.2.2.1.1.2
  have ha' := ha
  obtain ⟨hm, -, had, -, hyk⟩ := ha
  have hrow := h.row hm
  rw [hcm] at hrow had hyk
  unfold mz_ad at had
  dsimp only at had hyk
  have hyN := mz_u1 (mz_dn hyk)
  have h0 : a.AI 2 3 0 m = 8 := hrow.1 0 (by decide) (by decide)
  have h2 : a.AI 2 3 2 m = Int32.ofNat y := hrow.1 2 (by decide) (by decide)
  have hix := ix_of (w := m) (m := 800) (by omega) (by omega)
  rw [mv_acc_7] at K
  refine b_108_0 _ _ _ _ _ _ (by first | (exact hc_o (by first | assumption | (exact ⟨by decide, rfl⟩))) | assumption | (exact (hc_far (by omega)).trans (by assumption))) (by omega) (by first | rfl | assumption) (by first | (exact hc_o (by first | assumption | (exact ⟨by decide, rfl⟩))) | assumption | (exact (hc_far (by omega)).trans (by assumption))) (by omega) (by first | rfl | assumption) (by first | (exact hc_ai (by omega) (by first | assumption | (exact (ht9 (by assumption)).2.1) | (exact (ht9 (by assumption)).2.2.1) | (exact (ht9 (by assumption)).2.2.2) | rfl) (by decide)) | assumption | (exact (hc_far (by omega)).trans (by assumption))) (Or.inl (by omega)) (by first | assumption | (exact ix_of (by omega) (by omega)) | (exact ⟨by decide, rfl, by decide⟩)) ?_ ?_
  · intro z0
    refine b_108_38 _ _ _ ?_ ?_
    · intro z38
      exact absurd h0 z38
    · intro z38
      refine b_108_45 _ _ _ ?_ ?_
      · intro z45
        rw [if_neg (Int64.not_le.mpr (lg_gt.mp z45))] at K
        refine b_108_63 _ _ _ ?_ ?_
        · intro z63
          exact absurd h0 z63
        · intro z63
          refine b_108_70 _ _ _ (by first | (exact hc_o (by first | assumption | (exact ⟨by decide, rfl⟩))) | assumption | (exact (hc_far (by omega)).trans (by assumption))) (by omega) ?_
          refine cm_rec41 (e := e) hn h ha' hcm (fun hw a1 f1 g1 e1 k1 => ?_) (fun hw a1 f1 g1 e1 k1 => ?_)
          · have hR1 := k1.R
            have hqo1 := hR1.2.1
            have hqo15 := hqo1.1
            have hrow1 := k1.row hm
            rw [hcm] at hrow1
            have h21 : a1.AI 2 3 2 m = Int32.ofNat y := hrow1.1 2 (by decide) (by decide)
            refine b_108_76 _ _ _ _ _ _ (by first | (exact hc_o (by first | assumption | (exact ⟨by decide, rfl⟩))) | assumption | (exact (hc_far (by omega)).trans (by assumption))) (by omega) (by first | rfl | assumption) (by first | (exact hc_o (by first | assumption | (exact ⟨by decide, rfl⟩))) | assumption | (exact (hc_far (by omega)).trans (by assumption))) (by omega) (by first | rfl | assumption) (by first | (exact hc_o (by first | assumption | (exact ⟨by decide, rfl⟩))) | assumption | (exact (hc_far (by omega)).trans (by assumption))) (by omega) (by first | rfl | assumption) (by first | (exact hc_ai (by omega) (by first | assumption | (exact (ht9 (by assumption)).2.1) | (exact (ht9 (by assumption)).2.2.1) | (exact (ht9 (by assumption)).2.2.2) | rfl) (by decide)) | assumption | (exact (hc_far (by omega)).trans (by assumption))) (Or.inl (by omega)) (by first | assumption | (exact ix_of (by omega) (by omega)) | (exact ⟨by decide, rfl, by decide⟩)) (by first | (exact hc_o (by first | assumption | (exact ⟨by decide, rfl⟩))) | assumption | (exact (hc_far (by omega)).trans (by assumption))) (by omega) (Nat.le_of_ble_eq_true rfl) ?_
            refine hw_Q (hw_I (by first | assumption | (exact ⟨by decide, rfl⟩)) (by decide)) ?_
            rw [hR1.1, h21]
            have k2 := k1.go (i := y) (by omega)
            refine K _ (f1.sI (Or.inl ⟨rfl, rfl⟩)) g1 ?_
            first | (exact ⟨k2, e1⟩) | (rw [if_pos hw]; exact e1) | (rw [if_neg hw]; exact e1.elim (fun z => by rw [if_pos z.1]; exact ⟨k2, z.2⟩) (fun z => by rw [if_neg z.1]; exact z.2))
          · have hR1 := k1.R
            have hqo1 := hR1.2.1
            have hqo15 := hqo1.1
            have hrow1 := k1.row hm
            rw [hcm] at hrow1
            have h21 : a1.AI 2 3 2 m = Int32.ofNat y := hrow1.1 2 (by decide) (by decide)
            refine b_108_76 _ _ _ _ _ _ (by first | (exact hc_o (by first | assumption | (exact ⟨by decide, rfl⟩))) | assumption | (exact (hc_far (by omega)).trans (by assumption))) (by omega) (by first | rfl | assumption) (by first | (exact hc_o (by first | assumption | (exact ⟨by decide, rfl⟩))) | assumption | (exact (hc_far (by omega)).trans (by assumption))) (by omega) (by first | rfl | assumption) (by first | (exact hc_o (by first | assumption | (exact ⟨by decide, rfl⟩))) | assumption | (exact (hc_far (by omega)).trans (by assumption))) (by omega) (by first | rfl | assumption) (by first | (exact hc_ai (by omega) (by first | assumption | (exact (ht9 (by assumption)).2.1) | (exact (ht9 (by assumption)).2.2.1) | (exact (ht9 (by assumption)).2.2.2) | rfl) (by decide)) | assumption | (exact (hc_far (by omega)).trans (by assumption))) (Or.inl (by omega)) (by first | assumption | (exact ix_of (by omega) (by omega)) | (exact ⟨by decide, rfl, by decide⟩)) (by first | (exact hc_o (by first | assumption | (exact ⟨by decide, rfl⟩))) | assumption | (exact (hc_far (by omega)).trans (by assumption))) (by omega) (Nat.le_of_ble_eq_true rfl) ?_
            refine hw_Q (hw_I (by first | assumption | (exact ⟨by decide, rfl⟩)) (by decide)) ?_
            rw [hR1.1, h21]
            have k2 := k1.go (i := y) (by omega)
            refine K _ (f1.sI (Or.inl ⟨rfl, rfl⟩)) g1 ?_
            first | (exact ⟨k2, e1⟩) | (rw [if_pos hw]; exact e1) | (rw [if_neg hw]; exact e1.elim (fun z => by rw [if_pos z.1]; exact ⟨k2, z.2⟩) (fun z => by rw [if_neg z.1]; exact z.2))
      · intro z45
        rw [if_pos (Int64.not_lt.mp (fun h => z45 (lg_gt.mpr h)))] at K
        refine b_108_51 _ _ _ (by first | (exact hc_o (by first | assumption | (exact ⟨by decide, rfl⟩))) | assumption | (exact (hc_far (by omega)).trans (by assumption))) (by omega) (by first | rfl | assumption) (by first | (exact hc_o (by first | assumption | (exact ⟨by decide, rfl⟩))) | assumption | (exact (hc_far (by omega)).trans (by assumption))) (by omega) ?_
        refine ce_warn (x := 1) hn h (fun a1 f1 e1 g1 k1 => ?_)
        refine b_108_60 _ _ _ ?_
        have hR1 := k1.R
        have hqo1 := hR1.2.1
        have hqo15 := hqo1.1
        have hrow1 := k1.row hm
        rw [hcm] at hrow1
        have h21 : a1.AI 2 3 2 m = Int32.ofNat y := hrow1.1 2 (by decide) (by decide)
        refine b_108_76 _ _ _ _ _ _ (by first | (exact hc_o (by first | assumption | (exact ⟨by decide, rfl⟩))) | assumption | (exact (hc_far (by omega)).trans (by assumption))) (by omega) (by first | rfl | assumption) (by first | (exact hc_o (by first | assumption | (exact ⟨by decide, rfl⟩))) | assumption | (exact (hc_far (by omega)).trans (by assumption))) (by omega) (by first | rfl | assumption) (by first | (exact hc_o (by first | assumption | (exact ⟨by decide, rfl⟩))) | assumption | (exact (hc_far (by omega)).trans (by assumption))) (by omega) (by first | rfl | assumption) (by first | (exact hc_ai (by omega) (by first | assumption | (exact (ht9 (by assumption)).2.1) | (exact (ht9 (by assumption)).2.2.1) | (exact (ht9 (by assumption)).2.2.2) | rfl) (by decide)) | assumption | (exact (hc_far (by omega)).trans (by assumption))) (Or.inl (by omega)) (by first | assumption | (exact ix_of (by omega) (by omega)) | (exact ⟨by decide, rfl, by decide⟩)) (by first | (exact hc_o (by first | assumption | (exact ⟨by decide, rfl⟩))) | assumption | (exact (hc_far (by omega)).trans (by assumption))) (by omega) (Nat.le_of_ble_eq_true rfl) ?_
        refine hw_Q (hw_I (by first | assumption | (exact ⟨by decide, rfl⟩)) (by decide)) ?_
        rw [hR1.1, h21]
        have k2 := k1.go (i := y) (by omega)
        refine K _ (f1.sI (Or.inl ⟨rfl, rfl⟩)) g1 ?_
        first | (exact ⟨k2, e1⟩) | (rw [if_pos hw]; exact e1) | (rw [if_neg hw]; exact e1.elim (fun z => by rw [if_pos z.1]; exact ⟨k2, z.2⟩) (fun z => by rw [if_neg z.1]; exact z.2))
  · intro z0
    exact absurd (h0.symm.trans (Classical.not_not.mp z0)) (by decide)
theorem cm_a7_67 {A B D x y z : Nat} {u : Int64} {t : Nat × Nat} (hn : 575 ≤ n) (h : cM a 67 q N tb lo hi Z) (ha : mz_a tb N m) (hcm : tb m = (7, A, B, D, u, x, y, z, t)) (K : ∀ a', cMf 67 q a a' → a'.I 10 (67 + 12) 4 = a.I 10 (67 + 12) 4 → cRs a 67 q N tb lo hi a' (mv_acc false m v Z (7, A, B, D, u, x, y, z, t)) → Q (.inl none) (n, sl, hc a' f0)) : mi_W (e + 3) 108 0 (mi_en 5 [.ref 67, .int (Int32.ofNat m), .long v]) [] (n, sl, hc a f0) Q := by
  obtain ⟨hR, hqo, hq, hp68, hpo, hro, heo⟩ := h.R
  have hq5 := hq.1
  have hqo5 := hqo.1
  have hN8 := h.2.2.1.1.2
  have ha' := ha
  obtain ⟨hm, -, had, -, hyk⟩ := ha
  have hrow := h.row hm
  rw [hcm] at hrow had hyk
  unfold mz_ad at had
  dsimp only at had hyk
  have hyN := mz_u1 (mz_dn hyk)
  have h0 : a.AI 2 3 0 m = 8 := hrow.1 0 (by decide) (by decide)
  have h2 : a.AI 2 3 2 m = Int32.ofNat y := hrow.1 2 (by decide) (by decide)
  have hix := ix_of (w := m) (m := 800) (by omega) (by omega)
  rw [mv_acc_7] at K
  refine b_108_0 _ _ _ _ _ _ (by first | (exact hc_o (by first | assumption | (exact ⟨by decide, rfl⟩))) | assumption | (exact (hc_far (by omega)).trans (by assumption))) (by omega) (by first | rfl | assumption) (by first | (exact hc_o (by first | assumption | (exact ⟨by decide, rfl⟩))) | assumption | (exact (hc_far (by omega)).trans (by assumption))) (by omega) (by first | rfl | assumption) (by first | (exact hc_ai (by omega) (by first | assumption | (exact (ht9 (by assumption)).2.1) | (exact (ht9 (by assumption)).2.2.1) | (exact (ht9 (by assumption)).2.2.2) | rfl) (by decide)) | assumption | (exact (hc_far (by omega)).trans (by assumption))) (Or.inl (by omega)) (by first | assumption | (exact ix_of (by omega) (by omega)) | (exact ⟨by decide, rfl, by decide⟩)) ?_ ?_
  · intro z0
    refine b_108_38 _ _ _ ?_ ?_
    · intro z38
      exact absurd h0 z38
    · intro z38
      refine b_108_45 _ _ _ ?_ ?_
      · intro z45
        rw [if_neg (Int64.not_le.mpr (lg_gt.mp z45))] at K
        refine b_108_63 _ _ _ ?_ ?_
        · intro z63
          exact absurd h0 z63
        · intro z63
          refine b_108_70 _ _ _ (by first | (exact hc_o (by first | assumption | (exact ⟨by decide, rfl⟩))) | assumption | (exact (hc_far (by omega)).trans (by assumption))) (by omega) ?_
          refine cm_rec67 (e := e) hn h ha' hcm (fun hw a1 f1 g1 e1 k1 => ?_) (fun hw a1 f1 g1 e1 k1 => ?_)
          · have hR1 := k1.R
            have hqo1 := hR1.2.1
            have hqo15 := hqo1.1
            have hrow1 := k1.row hm
            rw [hcm] at hrow1
            have h21 : a1.AI 2 3 2 m = Int32.ofNat y := hrow1.1 2 (by decide) (by decide)
            refine b_108_76 _ _ _ _ _ _ (by first | (exact hc_o (by first | assumption | (exact ⟨by decide, rfl⟩))) | assumption | (exact (hc_far (by omega)).trans (by assumption))) (by omega) (by first | rfl | assumption) (by first | (exact hc_o (by first | assumption | (exact ⟨by decide, rfl⟩))) | assumption | (exact (hc_far (by omega)).trans (by assumption))) (by omega) (by first | rfl | assumption) (by first | (exact hc_o (by first | assumption | (exact ⟨by decide, rfl⟩))) | assumption | (exact (hc_far (by omega)).trans (by assumption))) (by omega) (by first | rfl | assumption) (by first | (exact hc_ai (by omega) (by first | assumption | (exact (ht9 (by assumption)).2.1) | (exact (ht9 (by assumption)).2.2.1) | (exact (ht9 (by assumption)).2.2.2) | rfl) (by decide)) | assumption | (exact (hc_far (by omega)).trans (by assumption))) (Or.inl (by omega)) (by first | assumption | (exact ix_of (by omega) (by omega)) | (exact ⟨by decide, rfl, by decide⟩)) (by first | (exact hc_o (by first | assumption | (exact ⟨by decide, rfl⟩))) | assumption | (exact (hc_far (by omega)).trans (by assumption))) (by omega) (Nat.le_of_ble_eq_true rfl) ?_
            refine hw_Q (hw_I (by first | assumption | (exact ⟨by decide, rfl⟩)) (by decide)) ?_
            rw [hR1.1, h21]
            have k2 := k1.go (i := y) (by omega)
            refine K _ (f1.sI (Or.inl ⟨rfl, rfl⟩)) g1 ?_
            first | (exact ⟨k2, e1⟩) | (rw [if_pos hw]; exact e1) | (rw [if_neg hw]; exact e1.elim (fun z => by rw [if_pos z.1]; exact ⟨k2, z.2⟩) (fun z => by rw [if_neg z.1]; exact z.2))
          · have hR1 := k1.R
            have hqo1 := hR1.2.1
            have hqo15 := hqo1.1
            have hrow1 := k1.row hm
            rw [hcm] at hrow1
            have h21 : a1.AI 2 3 2 m = Int32.ofNat y := hrow1.1 2 (by decide) (by decide)
            refine b_108_76 _ _ _ _ _ _ (by first | (exact hc_o (by first | assumption | (exact ⟨by decide, rfl⟩))) | assumption | (exact (hc_far (by omega)).trans (by assumption))) (by omega) (by first | rfl | assumption) (by first | (exact hc_o (by first | assumption | (exact ⟨by decide, rfl⟩))) | assumption | (exact (hc_far (by omega)).trans (by assumption))) (by omega) (by first | rfl | assumption) (by first | (exact hc_o (by first | assumption | (exact ⟨by decide, rfl⟩))) | assumption | (exact (hc_far (by omega)).trans (by assumption))) (by omega) (by first | rfl | assumption) (by first | (exact hc_ai (by omega) (by first | assumption | (exact (ht9 (by assumption)).2.1) | (exact (ht9 (by assumption)).2.2.1) | (exact (ht9 (by assumption)).2.2.2) | rfl) (by decide)) | assumption | (exact (hc_far (by omega)).trans (by assumption))) (Or.inl (by omega)) (by first | assumption | (exact ix_of (by omega) (by omega)) | (exact ⟨by decide, rfl, by decide⟩)) (by first | (exact hc_o (by first | assumption | (exact ⟨by decide, rfl⟩))) | assumption | (exact (hc_far (by omega)).trans (by assumption))) (by omega) (Nat.le_of_ble_eq_true rfl) ?_
            refine hw_Q (hw_I (by first | assumption | (exact ⟨by decide, rfl⟩)) (by decide)) ?_
            rw [hR1.1, h21]
            have k2 := k1.go (i := y) (by omega)
            refine K _ (f1.sI (Or.inl ⟨rfl, rfl⟩)) g1 ?_
            first | (exact ⟨k2, e1⟩) | (rw [if_pos hw]; exact e1) | (rw [if_neg hw]; exact e1.elim (fun z => by rw [if_pos z.1]; exact ⟨k2, z.2⟩) (fun z => by rw [if_neg z.1]; exact z.2))
      · intro z45
        rw [if_pos (Int64.not_lt.mp (fun h => z45 (lg_gt.mpr h)))] at K
        refine b_108_51 _ _ _ (by first | (exact hc_o (by first | assumption | (exact ⟨by decide, rfl⟩))) | assumption | (exact (hc_far (by omega)).trans (by assumption))) (by omega) (by first | rfl | assumption) (by first | (exact hc_o (by first | assumption | (exact ⟨by decide, rfl⟩))) | assumption | (exact (hc_far (by omega)).trans (by assumption))) (by omega) ?_
        refine ce_warn (x := 1) hn h (fun a1 f1 e1 g1 k1 => ?_)
        refine b_108_60 _ _ _ ?_
        have hR1 := k1.R
        have hqo1 := hR1.2.1
        have hqo15 := hqo1.1
        have hrow1 := k1.row hm
        rw [hcm] at hrow1
        have h21 : a1.AI 2 3 2 m = Int32.ofNat y := hrow1.1 2 (by decide) (by decide)
        refine b_108_76 _ _ _ _ _ _ (by first | (exact hc_o (by first | assumption | (exact ⟨by decide, rfl⟩))) | assumption | (exact (hc_far (by omega)).trans (by assumption))) (by omega) (by first | rfl | assumption) (by first | (exact hc_o (by first | assumption | (exact ⟨by decide, rfl⟩))) | assumption | (exact (hc_far (by omega)).trans (by assumption))) (by omega) (by first | rfl | assumption) (by first | (exact hc_o (by first | assumption | (exact ⟨by decide, rfl⟩))) | assumption | (exact (hc_far (by omega)).trans (by assumption))) (by omega) (by first | rfl | assumption) (by first | (exact hc_ai (by omega) (by first | assumption | (exact (ht9 (by assumption)).2.1) | (exact (ht9 (by assumption)).2.2.1) | (exact (ht9 (by assumption)).2.2.2) | rfl) (by decide)) | assumption | (exact (hc_far (by omega)).trans (by assumption))) (Or.inl (by omega)) (by first | assumption | (exact ix_of (by omega) (by omega)) | (exact ⟨by decide, rfl, by decide⟩)) (by first | (exact hc_o (by first | assumption | (exact ⟨by decide, rfl⟩))) | assumption | (exact (hc_far (by omega)).trans (by assumption))) (by omega) (Nat.le_of_ble_eq_true rfl) ?_
        refine hw_Q (hw_I (by first | assumption | (exact ⟨by decide, rfl⟩)) (by decide)) ?_
        rw [hR1.1, h21]
        have k2 := k1.go (i := y) (by omega)
        refine K _ (f1.sI (Or.inl ⟨rfl, rfl⟩)) g1 ?_
        first | (exact ⟨k2, e1⟩) | (rw [if_pos hw]; exact e1) | (rw [if_neg hw]; exact e1.elim (fun z => by rw [if_pos z.1]; exact ⟨k2, z.2⟩) (fun z => by rw [if_neg z.1]; exact z.2))
  · intro z0
    exact absurd (h0.symm.trans (Classical.not_not.mp z0)) (by decide)
end
