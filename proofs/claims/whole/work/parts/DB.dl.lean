/-! the first object: whether an input fits -/
def cBd (a : mh_A) (B : Nat) (bd : Nat → Int64 × Int64) (tb : Nat → ms_N) : Prop := B ≤ 2048 ∧ (∀ j, j < B → a.AL 2 3 10 (2 * j) = (bd j).1 ∧ a.AL 2 3 10 (2 * j + 1) = (bd j).2) ∧ ∀ m, (tb m).1 = 8 → (tb m).2.2.2.2.2.2.2.2.2 + (tb m).2.2.2.2.2.2.2.2.1 ≤ B
/-- an input as the first object has it -/
def cIn (a : mh_A) (ip k : Nat) (i : mv_I) : Prop := (i.1 = 7 ∨ i.1 = 8 ∨ i.1 = 9) ∧ a.AI 6 ip 0 k = Int32.ofNat (i.1 + 1) ∧ (¬ i.1 = 9 → a.AI 6 ip 1 k = Int32.ofNat i.2.1 ∧ i.2.1 ≤ 800) ∧ (i.1 = 7 → a.AI 6 ip 2 k = Int32.ofNat i.2.2.1 ∧ i.2.2.1 ≤ 800 ∧ a.AI 6 ip 3 k = Int32.ofNat i.2.2.2.1 ∧ i.2.2.2.1 ≤ 800) ∧ a.AL 6 ip 4 k = i.2.2.2.2
theorem ht6 {p : Nat} (h : p = 35 ∨ p = 55) : mh_o p 6 ∧ p + 5 < 505 ∧ mh_t (p + 1) = (0, 16, 6, p, 0) ∧ mh_t (p + 2) = (0, 16, 6, p, 1) ∧ mh_t (p + 3) = (0, 16, 6, p, 2) ∧ mh_t (p + 4) = (0, 16, 6, p, 3) ∧ mh_t (p + 5) = (3, 16, 6, p, 4) := by
  rcases h with rfl | rfl <;> exact ⟨⟨by decide, rfl⟩, by decide, rfl, rfl, rfl, rfl, rfl⟩
/-- a part of a when -/
def mz_a (tb : Nat → ms_N) (N m : Nat) : Prop := m < N ∧ mz_so (tb m).1 = 3 ∧ mz_ad (tb m) ∧ (mz_t 4 (tb m).1 = true → mz_ok tb N 99 (mz_sx (tb m).1) (tb m).2.2.2.2.2.1) ∧ mz_ok tb N 99 0 (tb m).2.2.2.2.2.2.1
theorem mz_so3 : ∀ o : Fin 33, mz_so o.1 = 3 → (o.1 = 7 ∨ o.1 = 8 ∨ o.1 = 9) := by decide +kernel
section
variable {d e n sl N : Nat} {a a0 a1 a2 : mh_A} {f0 : Nat → mi_C} {Q : (Option Value ⊕ Nat) → mi_H → Prop} {p q i j c k r m ip BN : Nat} {tb : Nat → ms_N} {lo hi v w : Int64} {Z : mv_Z} {bd : Nat → Int64 × Int64} {I : mv_I}
theorem ct_winl {A B D x y z F M : Nat} {u : Int64} (hn : 575 ≤ n) (hm : m < 800) (hb : cBd a BN bd tb) (hcm : tb m = (8, A, B, D, u, x, y, z, M, F)) (hrow : cRow a (tb m) m) (k1 : mv_wi bd v M F = true → Q (.inl (some (.int 1))) (n, sl, hc a f0)) (k0 : ¬ mv_wi bd v M F = true → Q (.inl (some (.int 0))) (n, sl, hc a f0)) : ∀ (t j : Nat), j + t = F + M → mv_wi bd v t j = mv_wi bd v M F → mi_W d 107 8 [some (.ref 3), some (.int (Int32.ofNat m)), some (.long v), none, some (.int (Int32.ofNat (2 * j)))] [] (n, sl, hc a f0) Q := by
  have hFM := hb.2.2 m (by rw [hcm])
  rw [hcm] at hFM hrow
  dsimp only at hFM
  have hB := hb.1
  have h6 : a.AI 2 3 6 m = Int32.ofNat (2 * (F + M)) := hrow.1 6 (by decide) (by decide)
  have hix := ix_of (w := m) (m := 800) (by omega) (by omega)
  intro t
  induction t with
  | zero =>
    intro j hj hw
    have e1 : Int32.ofNat (2 * j) + 1 = Int32.ofNat (2 * j + 1) := of_succ _
    refine b_107_8 _ _ _ ?_ ?_
    · intro z8
      exact absurd z8 (of_nn (by omega))
    · intro z8
      refine b_107_13 _ _ _ _ _ _ (by first | (exact hc_o (by first | assumption | (exact ⟨by decide, rfl⟩))) | assumption | (exact (hc_far (by omega)).trans (by assumption))) (by omega) (by first | rfl | assumption) (by first | (exact hc_ai (by omega) (by first | assumption | (exact (ht9 (by assumption)).2.1) | (exact (ht9 (by assumption)).2.2.1) | (exact (ht9 (by assumption)).2.2.2) | rfl) (by decide)) | assumption | (exact (hc_far (by omega)).trans (by assumption))) (Or.inl (by omega)) (by first | assumption | (exact ix_of (by omega) (by omega)) | (exact ⟨by decide, rfl, by decide⟩)) ?_ ?_
      · intro z13
        refine b_107_60 _ _ _ ?_
        refine k0 ?_
        rw [← hw]
        exact Bool.false_ne_true
      · intro z13
        exact absurd ((i_le h6 e1 (by omega) (by omega)).mpr (by omega)) z13
  | succ t ih =>
    intro j hj hw
    have e1 : Int32.ofNat (2 * j) + 1 = Int32.ofNat (2 * j + 1) := of_succ _
    have e2 : Int32.ofNat (2 * j) + 2 = Int32.ofNat (2 * (j + 1)) := of_add' (2 * j) 2
    have hix1 := ix_of (w := 2 * j) (m := 4096) (by omega) (by omega)
    have hix2 : mi_ix (Int32.ofNat (2 * j) + 1) 4096 (2 * j + 1) := by rw [e1]; exact ix_of (by omega) (by omega)
    obtain ⟨b1, b2⟩ := hb.2.1 j (by omega)
    have hu : mv_wi bd v (t + 1) j = if (bd j).1 ≤ v ∧ v ≤ (bd j).2 then true else mv_wi bd v t (j + 1) := rfl
    refine b_107_8 _ _ _ ?_ ?_
    · intro z8
      exact absurd z8 (of_nn (by omega))
    · intro z8
      refine b_107_13 _ _ _ _ _ _ (by first | (exact hc_o (by first | assumption | (exact ⟨by decide, rfl⟩))) | assumption | (exact (hc_far (by omega)).trans (by assumption))) (by omega) (by first | rfl | assumption) (by first | (exact hc_ai (by omega) (by first | assumption | (exact (ht9 (by assumption)).2.1) | (exact (ht9 (by assumption)).2.2.1) | (exact (ht9 (by assumption)).2.2.2) | rfl) (by decide)) | assumption | (exact (hc_far (by omega)).trans (by assumption))) (Or.inl (by omega)) (by first | assumption | (exact ix_of (by omega) (by omega)) | (exact ⟨by decide, rfl, by decide⟩)) ?_ ?_
      · intro z13
        exact absurd ((i_le h6 e1 (by omega) (by omega)).mp z13) (by omega)
      · intro z13
        refine b_107_26 _ _ _ _ _ _ (by first | (exact hc_o (by first | assumption | (exact ⟨by decide, rfl⟩))) | assumption | (exact (hc_far (by omega)).trans (by assumption))) (by omega) (by first | rfl | assumption) (by first | (exact hc_al (by omega) (by first | assumption | (exact (ht9 (by assumption)).2.1) | (exact (ht9 (by assumption)).2.2.1) | (exact (ht9 (by assumption)).2.2.2) | rfl)) | assumption | (exact (hc_far (by omega)).trans (by assumption))) (by omega) (by first | assumption | (exact ix_of (by omega) (by omega)) | (exact ⟨by decide, rfl, by decide⟩)) ?_ ?_
        · intro z26
          rw [b1] at z26
          refine b_107_54 _ _ _ ?_
          rw [e2]
          refine ih (j + 1) (by omega) ?_
          rw [← hw, hu, if_neg]
          intro h
          first | exact absurd (lg_lt.mp z26) (Int64.not_lt.mpr h.1) | exact absurd (lg_gt.mp z38) (Int64.not_lt.mpr h.2)
        · intro z26
          rw [b1] at z26
          refine b_107_38 _ _ _ _ _ _ (by first | (exact hc_o (by first | assumption | (exact ⟨by decide, rfl⟩))) | assumption | (exact (hc_far (by omega)).trans (by assumption))) (by omega) (by first | rfl | assumption) (by first | (exact hc_al (by omega) (by first | assumption | (exact (ht9 (by assumption)).2.1) | (exact (ht9 (by assumption)).2.2.1) | (exact (ht9 (by assumption)).2.2.2) | rfl)) | assumption | (exact (hc_far (by omega)).trans (by assumption))) (by omega) (by first | assumption | (exact ix_of (by omega) (by omega)) | (exact ⟨by decide, rfl, by decide⟩)) ?_ ?_
          · intro z38
            rw [b2] at z38
            refine b_107_54 _ _ _ ?_
            rw [e2]
            refine ih (j + 1) (by omega) ?_
            rw [← hw, hu, if_neg]
            intro h
            first | exact absurd (lg_lt.mp z26) (Int64.not_lt.mpr h.1) | exact absurd (lg_gt.mp z38) (Int64.not_lt.mpr h.2)
          · intro z38
            rw [b2] at z38
            refine b_107_52 _ _ _ ?_
            refine k1 ?_
            rw [← hw, hu, if_pos ⟨Int64.not_lt.mp (fun h => z26 (lg_lt.mpr h)), Int64.not_lt.mp (fun h => z38 (lg_gt.mpr h))⟩]
theorem ct_win {A B D x y z F M : Nat} {u : Int64} (hn : 575 ≤ n) (hm : m < 800) (hb : cBd a BN bd tb) (hcm : tb m = (8, A, B, D, u, x, y, z, M, F)) (hrow : cRow a (tb m) m) (k1 : mv_wi bd v M F = true → Q (.inl (some (.int 1))) (n, sl, hc a f0)) (k0 : ¬ mv_wi bd v M F = true → Q (.inl (some (.int 0))) (n, sl, hc a f0)) : mi_W d 107 0 (mi_en 5 [.ref 3, .int (Int32.ofNat m), .long v]) [] (n, sl, hc a f0) Q := by
  have h5 : a.AI 2 3 5 m = Int32.ofNat (2 * F) := by
    have := hrow.1 5 (by decide) (by decide)
    rw [hcm] at this
    exact this
  have hix := ix_of (w := m) (m := 800) (by omega) (by omega)
  refine b_107_0 _ _ _ _ _ _ (by first | (exact hc_o (by first | assumption | (exact ⟨by decide, rfl⟩))) | assumption | (exact (hc_far (by omega)).trans (by assumption))) (by omega) (by first | rfl | assumption) (by first | (exact hc_ai (by omega) (by first | assumption | (exact (ht9 (by assumption)).2.1) | (exact (ht9 (by assumption)).2.2.1) | (exact (ht9 (by assumption)).2.2.2) | rfl) (by decide)) | assumption | (exact (hc_far (by omega)).trans (by assumption))) (Or.inl (by omega)) (by first | assumption | (exact ix_of (by omega) (by omega)) | (exact ⟨by decide, rfl, by decide⟩)) ?_
  rw [h5]
  exact ct_winl hn hm hb hcm hrow k1 k0 M F rfl rfl
theorem cm_f7 {A B D x y z F M : Nat} {u : Int64} (hn : 575 ≤ n) (h : cM a p q N tb lo hi Z) (hfl : a.I 10 (p + 12) 4 = 0) (hS : mv_ok Z.S) (ha : mz_a tb N m) (hb : cBd a BN bd tb) (hip : ip = 35 ∨ ip = 55) (hk : k < 16) (hI : cIn a ip k I) (hcm : tb m = (7, A, B, D, u, x, y, z, M, F)) (K : ∀ r l a', (r = 0 ∨ r = 1) → cvo cvt (mv_fits bd (mv_E tb Z.S lo hi 100) I (7, A, B, D, u, x, y, z, M, F)) false r l → cMf p q a a' → a'.I 7 p 6 = a.I 7 p 6 → a'.I 10 (p + 12) 4 = cfl l → cM a' p q N tb lo hi Z → Q (.inl (some (.int r))) (n, sl, hc a' f0)) : mi_W (e + 110) 106 0 (mi_en 7 [.ref p, .int (Int32.ofNat m), .ref ip, .int (Int32.ofNat k)]) [] (n, sl, hc a f0) Q := by
  obtain ⟨hR, hqo, hq, hp68, hpo, hro, heo⟩ := h.R
  obtain ⟨hipo, hip5, t0, t1, t2, t3, t4⟩ := ht6 hip
  have hp12 := hro.1
  have hN8 := h.2.2.1.1.2
  obtain ⟨hm, -, had, hx, -⟩ := ha
  have hrow := h.row hm
  have hrow' := hrow
  rw [hcm] at hrow had hx
  unfold mz_ad at had
  dsimp only at had hx
  have h0 : a.AI 2 3 0 m = Int32.ofNat 8 := hrow.1 0 (by decide) (by decide)
  have hix := ix_of (w := m) (m := 800) (by omega) (by omega)
  have hik := ix_of (w := k) (m := 16) (by omega) (by omega)
  obtain ⟨hI1, hI0, hIf, hIst, hIa⟩ := hI
  generalize hEE : mv_E tb Z.S lo hi 100 = E at *
  have no : mv_fits bd E I (7, A, B, D, u, x, y, z, M, F) = some false → Q (.inl (some (.int 0))) (n, sl, hc a f0) := fun hs => K 0 false a (Or.inl rfl) (by rw [hs]; exact ⟨rfl, rfl⟩) cMf.re rfl hfl h
  have hu : mv_fits bd E I (7, A, B, D, u, x, y, z, M, F) = (if ¬ 7 = I.1 then some false else if 7 = 9 then E.2 x else if ¬ A = I.2.1 then some false else if 7 = 8 then some (mv_wi bd I.2.2.2.2 M F) else if ¬ (B = I.2.2.1 ∧ D = I.2.2.2.1) then some false else (E.1 x).map (fun w => decide (w = I.2.2.2.2))) := rfl
  have hxk : mz_ok tb N 100 1 x := mz_dn (hx (by decide))
  have h4 : a.AI 2 3 4 m = Int32.ofNat A := hrow.1 4 (by decide) (by decide)
  have hA := had.1 (by decide)
  have h5 : a.AI 2 3 5 m = Int32.ofNat B := hrow.1 5 (by decide) (by decide)
  have h6 : a.AI 2 3 6 m = Int32.ofNat D := hrow.1 6 (by decide) (by decide)
  have hB := had.2.1 (by decide)
  have hD := had.2.2 (by decide)
  refine b_106_0 _ _ _ _ _ _ _ _ _ (by first | (exact hc_o (by first | assumption | (exact ⟨by decide, rfl⟩))) | assumption | (exact (hc_far (by omega)).trans (by assumption))) (by omega) (by first | rfl | assumption) (by first | (exact hc_o (by first | assumption | (exact ⟨by decide, rfl⟩))) | assumption | (exact (hc_far (by omega)).trans (by assumption))) (by omega) (by first | rfl | assumption) (by first | (exact hc_ai (by omega) (by first | assumption | (exact (ht9 (by assumption)).2.1) | (exact (ht9 (by assumption)).2.2.1) | (exact (ht9 (by assumption)).2.2.2) | rfl) (by decide)) | assumption | (exact (hc_far (by omega)).trans (by assumption))) (Or.inl (by omega)) (by first | assumption | (exact ix_of (by omega) (by omega)) | (exact ⟨by decide, rfl, by decide⟩)) (by first | (exact hc_o (by first | assumption | (exact ⟨by decide, rfl⟩))) | assumption | (exact (hc_far (by omega)).trans (by assumption))) (by omega) (by first | rfl | assumption) (by first | (exact hc_ai (by omega) (by first | assumption | (exact (ht9 (by assumption)).2.1) | (exact (ht9 (by assumption)).2.2.1) | (exact (ht9 (by assumption)).2.2.2) | rfl) (by decide)) | assumption | (exact (hc_far (by omega)).trans (by assumption))) (Or.inl (by omega)) (by first | assumption | (exact ix_of (by omega) (by omega)) | (exact ⟨by decide, rfl, by decide⟩)) ?_ ?_
  · intro z0
    have hop : 7 = I.1 := by have := (i_eq h0 hI0 (by omega) (by omega)).mp z0; omega
    rw [if_neg (fun h => h hop)] at hu
    refine b_106_24 _ _ _ ?_ ?_
    · intro z24
      obtain ⟨hIf1, hIf8⟩ := hIf (by omega)
      rw [if_neg (by decide)] at hu
      refine b_106_49 _ _ _ _ _ _ _ _ _ (by first | (exact hc_o (by first | assumption | (exact ⟨by decide, rfl⟩))) | assumption | (exact (hc_far (by omega)).trans (by assumption))) (by omega) (by first | rfl | assumption) (by first | (exact hc_o (by first | assumption | (exact ⟨by decide, rfl⟩))) | assumption | (exact (hc_far (by omega)).trans (by assumption))) (by omega) (by first | rfl | assumption) (by first | (exact hc_ai (by omega) (by first | assumption | (exact (ht9 (by assumption)).2.1) | (exact (ht9 (by assumption)).2.2.1) | (exact (ht9 (by assumption)).2.2.2) | rfl) (by decide)) | assumption | (exact (hc_far (by omega)).trans (by assumption))) (Or.inl (by omega)) (by first | assumption | (exact ix_of (by omega) (by omega)) | (exact ⟨by decide, rfl, by decide⟩)) (by first | (exact hc_o (by first | assumption | (exact ⟨by decide, rfl⟩))) | assumption | (exact (hc_far (by omega)).trans (by assumption))) (by omega) (by first | rfl | assumption) (by first | (exact hc_ai (by omega) (by first | assumption | (exact (ht9 (by assumption)).2.1) | (exact (ht9 (by assumption)).2.2.1) | (exact (ht9 (by assumption)).2.2.2) | rfl) (by decide)) | assumption | (exact (hc_far (by omega)).trans (by assumption))) (Or.inl (by omega)) (by first | assumption | (exact ix_of (by omega) (by omega)) | (exact ⟨by decide, rfl, by decide⟩)) ?_ ?_
      · intro z49
        have hAI : A = I.2.1 := (i_eq h4 hIf1 (by omega) (by omega)).mp z49
        rw [if_neg (fun h => h hAI)] at hu
        refine b_106_69 _ _ _ _ _ _ (by first | (exact hc_o (by first | assumption | (exact ⟨by decide, rfl⟩))) | assumption | (exact (hc_far (by omega)).trans (by assumption))) (by omega) (by first | rfl | assumption) (by first | (exact hc_al (by omega) (by first | assumption | (exact (ht9 (by assumption)).2.1) | (exact (ht9 (by assumption)).2.2.1) | (exact (ht9 (by assumption)).2.2.2) | rfl)) | assumption | (exact (hc_far (by omega)).trans (by assumption))) (by omega) (by first | assumption | (exact ix_of (by omega) (by omega)) | (exact ⟨by decide, rfl, by decide⟩)) ?_ ?_
        · intro z69
          obtain ⟨s1, s2, s3, s4⟩ := hIst (by omega)
          rw [if_neg (by decide)] at hu
          rw [hIa]
          refine b_106_95 _ _ _ _ _ _ _ _ _ (by first | (exact hc_o (by first | assumption | (exact ⟨by decide, rfl⟩))) | assumption | (exact (hc_far (by omega)).trans (by assumption))) (by omega) (by first | rfl | assumption) (by first | (exact hc_o (by first | assumption | (exact ⟨by decide, rfl⟩))) | assumption | (exact (hc_far (by omega)).trans (by assumption))) (by omega) (by first | rfl | assumption) (by first | (exact hc_ai (by omega) (by first | assumption | (exact (ht9 (by assumption)).2.1) | (exact (ht9 (by assumption)).2.2.1) | (exact (ht9 (by assumption)).2.2.2) | rfl) (by decide)) | assumption | (exact (hc_far (by omega)).trans (by assumption))) (Or.inl (by omega)) (by first | assumption | (exact ix_of (by omega) (by omega)) | (exact ⟨by decide, rfl, by decide⟩)) (by first | (exact hc_o (by first | assumption | (exact ⟨by decide, rfl⟩))) | assumption | (exact (hc_far (by omega)).trans (by assumption))) (by omega) (by first | rfl | assumption) (by first | (exact hc_ai (by omega) (by first | assumption | (exact (ht9 (by assumption)).2.1) | (exact (ht9 (by assumption)).2.2.1) | (exact (ht9 (by assumption)).2.2.2) | rfl) (by decide)) | assumption | (exact (hc_far (by omega)).trans (by assumption))) (Or.inl (by omega)) (by first | assumption | (exact ix_of (by omega) (by omega)) | (exact ⟨by decide, rfl, by decide⟩)) ?_ ?_
          · intro z95
            have hne : ¬ (B = I.2.2.1 ∧ D = I.2.2.2.1) := fun h => z95 (by rw [h5, s1, h.1])
            refine b_106_158 _ _ _ ?_
            refine b_106_159 _ _ _ (by first | assumption | (exact mL_get (by decide)) | (rw [mL_len]; decide) | (simp only [mL_set]; exact mL_get (by decide)) | (simp only [mL_set, mL_len]; decide) | (exact va_eq) | (exact (va_ne (by omega)).trans (by assumption)) | (exact (va_ne (by omega)).trans va_eq) | (exact (va_ne (by omega)).trans ((va_ne (by omega)).trans (by assumption))) | (exact (va_ne (by omega)).trans ((va_ne (by omega)).trans ((va_ne (by omega)).trans (by assumption)))) | rfl | (exact Or.inl rfl) | (exact Or.inr rfl) | omega | (exact Nat.le_of_ble_eq_true rfl) | decide | (exact ⟨by decide, rfl, by decide⟩)) ?_
            first | (exact no (by rw [hu, if_pos hne])) | (exact K 0 l1 _ (Or.inl rfl) (by rw [hu]; exact cvo_m c1 (fun w _ ew => by rw [decide_eq_false (fun e : w = I.2.2.2.2 => z148 (lg_e.mpr (ew.trans e)))]; rfl)) cMf.re.cvL cvL_er (cvL_fl hfl) h.cvL)
          · intro z95
            have hBI : B = I.2.2.1 := (i_eq h5 s1 (by omega) (by omega)).mp (Classical.not_not.mp z95)
            refine b_106_113 _ _ _ _ _ _ _ _ _ (by first | (exact hc_o (by first | assumption | (exact ⟨by decide, rfl⟩))) | assumption | (exact (hc_far (by omega)).trans (by assumption))) (by omega) (by first | rfl | assumption) (by first | (exact hc_o (by first | assumption | (exact ⟨by decide, rfl⟩))) | assumption | (exact (hc_far (by omega)).trans (by assumption))) (by omega) (by first | rfl | assumption) (by first | (exact hc_ai (by omega) (by first | assumption | (exact (ht9 (by assumption)).2.1) | (exact (ht9 (by assumption)).2.2.1) | (exact (ht9 (by assumption)).2.2.2) | rfl) (by decide)) | assumption | (exact (hc_far (by omega)).trans (by assumption))) (Or.inl (by omega)) (by first | assumption | (exact ix_of (by omega) (by omega)) | (exact ⟨by decide, rfl, by decide⟩)) (by first | (exact hc_o (by first | assumption | (exact ⟨by decide, rfl⟩))) | assumption | (exact (hc_far (by omega)).trans (by assumption))) (by omega) (by first | rfl | assumption) (by first | (exact hc_ai (by omega) (by first | assumption | (exact (ht9 (by assumption)).2.1) | (exact (ht9 (by assumption)).2.2.1) | (exact (ht9 (by assumption)).2.2.2) | rfl) (by decide)) | assumption | (exact (hc_far (by omega)).trans (by assumption))) (Or.inl (by omega)) (by first | assumption | (exact ix_of (by omega) (by omega)) | (exact ⟨by decide, rfl, by decide⟩)) ?_ ?_
            · intro z113
              have hne : ¬ (B = I.2.2.1 ∧ D = I.2.2.2.1) := fun h => z113 (by rw [h6, s3, h.2])
              refine b_106_158 _ _ _ ?_
              refine b_106_159 _ _ _ (by first | assumption | (exact mL_get (by decide)) | (rw [mL_len]; decide) | (simp only [mL_set]; exact mL_get (by decide)) | (simp only [mL_set, mL_len]; decide) | (exact va_eq) | (exact (va_ne (by omega)).trans (by assumption)) | (exact (va_ne (by omega)).trans va_eq) | (exact (va_ne (by omega)).trans ((va_ne (by omega)).trans (by assumption))) | (exact (va_ne (by omega)).trans ((va_ne (by omega)).trans ((va_ne (by omega)).trans (by assumption)))) | rfl | (exact Or.inl rfl) | (exact Or.inr rfl) | omega | (exact Nat.le_of_ble_eq_true rfl) | decide | (exact ⟨by decide, rfl, by decide⟩)) ?_
              first | (exact no (by rw [hu, if_pos hne])) | (exact K 0 l1 _ (Or.inl rfl) (by rw [hu]; exact cvo_m c1 (fun w _ ew => by rw [decide_eq_false (fun e : w = I.2.2.2.2 => z148 (lg_e.mpr (ew.trans e)))]; rfl)) cMf.re.cvL cvL_er (cvL_fl hfl) h.cvL)
            · intro z113
              have hDI : D = I.2.2.2.1 := (i_eq h6 s3 (by omega) (by omega)).mp (Classical.not_not.mp z113)
              rw [if_neg (fun h => h ⟨hBI, hDI⟩)] at hu
              refine b_106_131 _ _ _ _ _ _ (by first | (exact hc_o (by first | assumption | (exact ⟨by decide, rfl⟩))) | assumption | (exact (hc_far (by omega)).trans (by assumption))) (by omega) (by first | rfl | assumption) (by first | (exact hc_o (by first | assumption | (exact ⟨by decide, rfl⟩))) | assumption | (exact (hc_far (by omega)).trans (by assumption))) (by omega) (by first | rfl | assumption) (by first | (exact hc_o (by first | assumption | (exact ⟨by decide, rfl⟩))) | assumption | (exact (hc_far (by omega)).trans (by assumption))) (by omega) (by first | rfl | assumption) (by first | (exact hc_ai (by omega) (by first | assumption | (exact (ht9 (by assumption)).2.1) | (exact (ht9 (by assumption)).2.2.1) | (exact (ht9 (by assumption)).2.2.2) | rfl) (by decide)) | assumption | (exact (hc_far (by omega)).trans (by assumption))) (Or.inl (by omega)) (by first | assumption | (exact ix_of (by omega) (by omega)) | (exact ⟨by decide, rfl, by decide⟩)) (by first | (exact hc_o (by first | assumption | (exact ⟨by decide, rfl⟩))) | assumption | (exact (hc_far (by omega)).trans (by assumption))) (by omega) ?_
              rw [show a.AI 2 3 1 m = Int32.ofNat x from hrow.1 1 (by decide) (by decide)]
              refine (cv_E hn (h.rk hfl hS) 100 (Nat.le_refl _)).1 x 1 _ false _ (by omega) (by omega) hxk (fun r1 l1 c1 => ?_)
              rw [hEE] at c1
              refine b_106_148 _ _ _ ?_ ?_
              · intro z148
                refine b_106_158 _ _ _ ?_
                refine b_106_159 _ _ _ (by first | assumption | (exact mL_get (by decide)) | (rw [mL_len]; decide) | (simp only [mL_set]; exact mL_get (by decide)) | (simp only [mL_set, mL_len]; decide) | (exact va_eq) | (exact (va_ne (by omega)).trans (by assumption)) | (exact (va_ne (by omega)).trans va_eq) | (exact (va_ne (by omega)).trans ((va_ne (by omega)).trans (by assumption))) | (exact (va_ne (by omega)).trans ((va_ne (by omega)).trans ((va_ne (by omega)).trans (by assumption)))) | rfl | (exact Or.inl rfl) | (exact Or.inr rfl) | omega | (exact Nat.le_of_ble_eq_true rfl) | decide | (exact ⟨by decide, rfl, by decide⟩)) ?_
                first | (exact no (by rw [hu, if_pos hne])) | (exact K 0 l1 _ (Or.inl rfl) (by rw [hu]; exact cvo_m c1 (fun w _ ew => by rw [decide_eq_false (fun e : w = I.2.2.2.2 => z148 (lg_e.mpr (ew.trans e)))]; rfl)) cMf.re.cvL cvL_er (cvL_fl hfl) h.cvL)
              · intro z148
                refine b_106_154 _ _ _ ?_
                refine b_106_159 _ _ _ (by first | assumption | (exact mL_get (by decide)) | (rw [mL_len]; decide) | (simp only [mL_set]; exact mL_get (by decide)) | (simp only [mL_set, mL_len]; decide) | (exact va_eq) | (exact (va_ne (by omega)).trans (by assumption)) | (exact (va_ne (by omega)).trans va_eq) | (exact (va_ne (by omega)).trans ((va_ne (by omega)).trans (by assumption))) | (exact (va_ne (by omega)).trans ((va_ne (by omega)).trans ((va_ne (by omega)).trans (by assumption)))) | rfl | (exact Or.inl rfl) | (exact Or.inr rfl) | omega | (exact Nat.le_of_ble_eq_true rfl) | decide | (exact ⟨by decide, rfl, by decide⟩)) ?_
                refine K 1 l1 _ (Or.inr rfl) ?_ cMf.re.cvL cvL_er (cvL_fl hfl) h.cvL
                rw [hu]
                refine cvo_m c1 (fun w _ ew => ?_)
                have : w = I.2.2.2.2 := ew.symm.trans (lg_e.mp (Classical.not_not.mp z148))
                rw [decide_eq_true this]
                rfl
        · intro z69
          exact absurd (h0.symm.trans (Classical.not_not.mp z69)) (by decide)
      · intro z49
        refine b_106_67 _ _ _ ?_
        refine no ?_
        rw [hu, if_pos]
        intro h
        refine z49 ?_
        rw [h4, hIf1, ← h]
    · intro z24
      exact absurd (h0.symm.trans (Classical.not_not.mp z24)) (by decide)
  · intro z0
    refine b_106_22 _ _ _ ?_
    refine no ?_
    rw [hu, if_pos]
    intro h
    refine z0 ?_
    rw [h0, hI0, ← h]
theorem cm_f8 {A B D x y z F M : Nat} {u : Int64} (hn : 575 ≤ n) (h : cM a p q N tb lo hi Z) (hfl : a.I 10 (p + 12) 4 = 0) (hS : mv_ok Z.S) (ha : mz_a tb N m) (hb : cBd a BN bd tb) (hip : ip = 35 ∨ ip = 55) (hk : k < 16) (hI : cIn a ip k I) (hcm : tb m = (8, A, B, D, u, x, y, z, M, F)) (K : ∀ r l a', (r = 0 ∨ r = 1) → cvo cvt (mv_fits bd (mv_E tb Z.S lo hi 100) I (8, A, B, D, u, x, y, z, M, F)) false r l → cMf p q a a' → a'.I 7 p 6 = a.I 7 p 6 → a'.I 10 (p + 12) 4 = cfl l → cM a' p q N tb lo hi Z → Q (.inl (some (.int r))) (n, sl, hc a' f0)) : mi_W (e + 110) 106 0 (mi_en 7 [.ref p, .int (Int32.ofNat m), .ref ip, .int (Int32.ofNat k)]) [] (n, sl, hc a f0) Q := by
  obtain ⟨hR, hqo, hq, hp68, hpo, hro, heo⟩ := h.R
  obtain ⟨hipo, hip5, t0, t1, t2, t3, t4⟩ := ht6 hip
  have hp12 := hro.1
  have hN8 := h.2.2.1.1.2
  obtain ⟨hm, -, had, hx, -⟩ := ha
  have hrow := h.row hm
  have hrow' := hrow
  rw [hcm] at hrow had hx
  unfold mz_ad at had
  dsimp only at had hx
  have h0 : a.AI 2 3 0 m = Int32.ofNat 9 := hrow.1 0 (by decide) (by decide)
  have hix := ix_of (w := m) (m := 800) (by omega) (by omega)
  have hik := ix_of (w := k) (m := 16) (by omega) (by omega)
  obtain ⟨hI1, hI0, hIf, hIst, hIa⟩ := hI
  generalize hEE : mv_E tb Z.S lo hi 100 = E at *
  have no : mv_fits bd E I (8, A, B, D, u, x, y, z, M, F) = some false → Q (.inl (some (.int 0))) (n, sl, hc a f0) := fun hs => K 0 false a (Or.inl rfl) (by rw [hs]; exact ⟨rfl, rfl⟩) cMf.re rfl hfl h
  have hu : mv_fits bd E I (8, A, B, D, u, x, y, z, M, F) = (if ¬ 8 = I.1 then some false else if 8 = 9 then E.2 x else if ¬ A = I.2.1 then some false else if 8 = 8 then some (mv_wi bd I.2.2.2.2 M F) else if ¬ (B = I.2.2.1 ∧ D = I.2.2.2.1) then some false else (E.1 x).map (fun w => decide (w = I.2.2.2.2))) := rfl
  have h4 : a.AI 2 3 4 m = Int32.ofNat A := hrow.1 4 (by decide) (by decide)
  have hA := had.1 (by decide)
  refine b_106_0 _ _ _ _ _ _ _ _ _ (by first | (exact hc_o (by first | assumption | (exact ⟨by decide, rfl⟩))) | assumption | (exact (hc_far (by omega)).trans (by assumption))) (by omega) (by first | rfl | assumption) (by first | (exact hc_o (by first | assumption | (exact ⟨by decide, rfl⟩))) | assumption | (exact (hc_far (by omega)).trans (by assumption))) (by omega) (by first | rfl | assumption) (by first | (exact hc_ai (by omega) (by first | assumption | (exact (ht9 (by assumption)).2.1) | (exact (ht9 (by assumption)).2.2.1) | (exact (ht9 (by assumption)).2.2.2) | rfl) (by decide)) | assumption | (exact (hc_far (by omega)).trans (by assumption))) (Or.inl (by omega)) (by first | assumption | (exact ix_of (by omega) (by omega)) | (exact ⟨by decide, rfl, by decide⟩)) (by first | (exact hc_o (by first | assumption | (exact ⟨by decide, rfl⟩))) | assumption | (exact (hc_far (by omega)).trans (by assumption))) (by omega) (by first | rfl | assumption) (by first | (exact hc_ai (by omega) (by first | assumption | (exact (ht9 (by assumption)).2.1) | (exact (ht9 (by assumption)).2.2.1) | (exact (ht9 (by assumption)).2.2.2) | rfl) (by decide)) | assumption | (exact (hc_far (by omega)).trans (by assumption))) (Or.inl (by omega)) (by first | assumption | (exact ix_of (by omega) (by omega)) | (exact ⟨by decide, rfl, by decide⟩)) ?_ ?_
  · intro z0
    have hop : 8 = I.1 := by have := (i_eq h0 hI0 (by omega) (by omega)).mp z0; omega
    rw [if_neg (fun h => h hop)] at hu
    refine b_106_24 _ _ _ ?_ ?_
    · intro z24
      obtain ⟨hIf1, hIf8⟩ := hIf (by omega)
      rw [if_neg (by decide)] at hu
      refine b_106_49 _ _ _ _ _ _ _ _ _ (by first | (exact hc_o (by first | assumption | (exact ⟨by decide, rfl⟩))) | assumption | (exact (hc_far (by omega)).trans (by assumption))) (by omega) (by first | rfl | assumption) (by first | (exact hc_o (by first | assumption | (exact ⟨by decide, rfl⟩))) | assumption | (exact (hc_far (by omega)).trans (by assumption))) (by omega) (by first | rfl | assumption) (by first | (exact hc_ai (by omega) (by first | assumption | (exact (ht9 (by assumption)).2.1) | (exact (ht9 (by assumption)).2.2.1) | (exact (ht9 (by assumption)).2.2.2) | rfl) (by decide)) | assumption | (exact (hc_far (by omega)).trans (by assumption))) (Or.inl (by omega)) (by first | assumption | (exact ix_of (by omega) (by omega)) | (exact ⟨by decide, rfl, by decide⟩)) (by first | (exact hc_o (by first | assumption | (exact ⟨by decide, rfl⟩))) | assumption | (exact (hc_far (by omega)).trans (by assumption))) (by omega) (by first | rfl | assumption) (by first | (exact hc_ai (by omega) (by first | assumption | (exact (ht9 (by assumption)).2.1) | (exact (ht9 (by assumption)).2.2.1) | (exact (ht9 (by assumption)).2.2.2) | rfl) (by decide)) | assumption | (exact (hc_far (by omega)).trans (by assumption))) (Or.inl (by omega)) (by first | assumption | (exact ix_of (by omega) (by omega)) | (exact ⟨by decide, rfl, by decide⟩)) ?_ ?_
      · intro z49
        have hAI : A = I.2.1 := (i_eq h4 hIf1 (by omega) (by omega)).mp z49
        rw [if_neg (fun h => h hAI)] at hu
        refine b_106_69 _ _ _ _ _ _ (by first | (exact hc_o (by first | assumption | (exact ⟨by decide, rfl⟩))) | assumption | (exact (hc_far (by omega)).trans (by assumption))) (by omega) (by first | rfl | assumption) (by first | (exact hc_al (by omega) (by first | assumption | (exact (ht9 (by assumption)).2.1) | (exact (ht9 (by assumption)).2.2.1) | (exact (ht9 (by assumption)).2.2.2) | rfl)) | assumption | (exact (hc_far (by omega)).trans (by assumption))) (by omega) (by first | assumption | (exact ix_of (by omega) (by omega)) | (exact ⟨by decide, rfl, by decide⟩)) ?_ ?_
        · intro z69
          exact absurd h0 z69
        · intro z69
          refine b_106_84 _ _ _ (by first | (exact hc_o (by first | assumption | (exact ⟨by decide, rfl⟩))) | assumption | (exact (hc_far (by omega)).trans (by assumption))) (by omega) (by first | rfl | assumption) (by first | (exact hc_o (by first | assumption | (exact ⟨by decide, rfl⟩))) | assumption | (exact (hc_far (by omega)).trans (by assumption))) (by omega) ?_
          rw [hIa]
          refine ct_win hn (by omega) hb hcm hrow' (fun hw => ?_) (fun hw => ?_)
          · refine b_106_94 _ _ _ (by first | assumption | (exact mL_get (by decide)) | (rw [mL_len]; decide) | (simp only [mL_set]; exact mL_get (by decide)) | (simp only [mL_set, mL_len]; decide) | (exact va_eq) | (exact (va_ne (by omega)).trans (by assumption)) | (exact (va_ne (by omega)).trans va_eq) | (exact (va_ne (by omega)).trans ((va_ne (by omega)).trans (by assumption))) | (exact (va_ne (by omega)).trans ((va_ne (by omega)).trans ((va_ne (by omega)).trans (by assumption)))) | rfl | (exact Or.inl rfl) | (exact Or.inr rfl) | omega | (exact Nat.le_of_ble_eq_true rfl) | decide | (exact ⟨by decide, rfl, by decide⟩)) ?_
            refine K 1 false a (Or.inr rfl) ?_ cMf.re rfl hfl h
            rw [hu, if_pos rfl, hw]
            exact ⟨rfl, rfl⟩
          · refine b_106_94 _ _ _ (by first | assumption | (exact mL_get (by decide)) | (rw [mL_len]; decide) | (simp only [mL_set]; exact mL_get (by decide)) | (simp only [mL_set, mL_len]; decide) | (exact va_eq) | (exact (va_ne (by omega)).trans (by assumption)) | (exact (va_ne (by omega)).trans va_eq) | (exact (va_ne (by omega)).trans ((va_ne (by omega)).trans (by assumption))) | (exact (va_ne (by omega)).trans ((va_ne (by omega)).trans ((va_ne (by omega)).trans (by assumption)))) | rfl | (exact Or.inl rfl) | (exact Or.inr rfl) | omega | (exact Nat.le_of_ble_eq_true rfl) | decide | (exact ⟨by decide, rfl, by decide⟩)) ?_
            refine no ?_
            rw [hu, if_pos rfl, Bool.eq_false_iff.mpr hw]
      · intro z49
        refine b_106_67 _ _ _ ?_
        refine no ?_
        rw [hu, if_pos]
        intro h
        refine z49 ?_
        rw [h4, hIf1, ← h]
    · intro z24
      exact absurd (h0.symm.trans (Classical.not_not.mp z24)) (by decide)
  · intro z0
    refine b_106_22 _ _ _ ?_
    refine no ?_
    rw [hu, if_pos]
    intro h
    refine z0 ?_
    rw [h0, hI0, ← h]
theorem cm_f9 {A B D x y z F M : Nat} {u : Int64} (hn : 575 ≤ n) (h : cM a p q N tb lo hi Z) (hfl : a.I 10 (p + 12) 4 = 0) (hS : mv_ok Z.S) (ha : mz_a tb N m) (hb : cBd a BN bd tb) (hip : ip = 35 ∨ ip = 55) (hk : k < 16) (hI : cIn a ip k I) (hcm : tb m = (9, A, B, D, u, x, y, z, M, F)) (K : ∀ r l a', (r = 0 ∨ r = 1) → cvo cvt (mv_fits bd (mv_E tb Z.S lo hi 100) I (9, A, B, D, u, x, y, z, M, F)) false r l → cMf p q a a' → a'.I 7 p 6 = a.I 7 p 6 → a'.I 10 (p + 12) 4 = cfl l → cM a' p q N tb lo hi Z → Q (.inl (some (.int r))) (n, sl, hc a' f0)) : mi_W (e + 110) 106 0 (mi_en 7 [.ref p, .int (Int32.ofNat m), .ref ip, .int (Int32.ofNat k)]) [] (n, sl, hc a f0) Q := by
  obtain ⟨hR, hqo, hq, hp68, hpo, hro, heo⟩ := h.R
  obtain ⟨hipo, hip5, t0, t1, t2, t3, t4⟩ := ht6 hip
  have hp12 := hro.1
  have hN8 := h.2.2.1.1.2
  obtain ⟨hm, -, had, hx, -⟩ := ha
  have hrow := h.row hm
  have hrow' := hrow
  rw [hcm] at hrow had hx
  unfold mz_ad at had
  dsimp only at had hx
  have h0 : a.AI 2 3 0 m = Int32.ofNat 10 := hrow.1 0 (by decide) (by decide)
  have hix := ix_of (w := m) (m := 800) (by omega) (by omega)
  have hik := ix_of (w := k) (m := 16) (by omega) (by omega)
  obtain ⟨hI1, hI0, hIf, hIst, hIa⟩ := hI
  generalize hEE : mv_E tb Z.S lo hi 100 = E at *
  have no : mv_fits bd E I (9, A, B, D, u, x, y, z, M, F) = some false → Q (.inl (some (.int 0))) (n, sl, hc a f0) := fun hs => K 0 false a (Or.inl rfl) (by rw [hs]; exact ⟨rfl, rfl⟩) cMf.re rfl hfl h
  have hu : mv_fits bd E I (9, A, B, D, u, x, y, z, M, F) = (if ¬ 9 = I.1 then some false else if 9 = 9 then E.2 x else if ¬ A = I.2.1 then some false else if 9 = 8 then some (mv_wi bd I.2.2.2.2 M F) else if ¬ (B = I.2.2.1 ∧ D = I.2.2.2.1) then some false else (E.1 x).map (fun w => decide (w = I.2.2.2.2))) := rfl
  have hxk : mz_ok tb N 100 2 x := mz_dn (hx (by decide))
  refine b_106_0 _ _ _ _ _ _ _ _ _ (by first | (exact hc_o (by first | assumption | (exact ⟨by decide, rfl⟩))) | assumption | (exact (hc_far (by omega)).trans (by assumption))) (by omega) (by first | rfl | assumption) (by first | (exact hc_o (by first | assumption | (exact ⟨by decide, rfl⟩))) | assumption | (exact (hc_far (by omega)).trans (by assumption))) (by omega) (by first | rfl | assumption) (by first | (exact hc_ai (by omega) (by first | assumption | (exact (ht9 (by assumption)).2.1) | (exact (ht9 (by assumption)).2.2.1) | (exact (ht9 (by assumption)).2.2.2) | rfl) (by decide)) | assumption | (exact (hc_far (by omega)).trans (by assumption))) (Or.inl (by omega)) (by first | assumption | (exact ix_of (by omega) (by omega)) | (exact ⟨by decide, rfl, by decide⟩)) (by first | (exact hc_o (by first | assumption | (exact ⟨by decide, rfl⟩))) | assumption | (exact (hc_far (by omega)).trans (by assumption))) (by omega) (by first | rfl | assumption) (by first | (exact hc_ai (by omega) (by first | assumption | (exact (ht9 (by assumption)).2.1) | (exact (ht9 (by assumption)).2.2.1) | (exact (ht9 (by assumption)).2.2.2) | rfl) (by decide)) | assumption | (exact (hc_far (by omega)).trans (by assumption))) (Or.inl (by omega)) (by first | assumption | (exact ix_of (by omega) (by omega)) | (exact ⟨by decide, rfl, by decide⟩)) ?_ ?_
  · intro z0
    have hop : 9 = I.1 := by have := (i_eq h0 hI0 (by omega) (by omega)).mp z0; omega
    rw [if_neg (fun h => h hop)] at hu
    refine b_106_24 _ _ _ ?_ ?_
    · intro z24
      exact absurd h0 z24
    · intro z24
      refine b_106_31 _ _ _ _ _ _ (by first | (exact hc_o (by first | assumption | (exact ⟨by decide, rfl⟩))) | assumption | (exact (hc_far (by omega)).trans (by assumption))) (by omega) (by first | rfl | assumption) (by first | (exact hc_o (by first | assumption | (exact ⟨by decide, rfl⟩))) | assumption | (exact (hc_far (by omega)).trans (by assumption))) (by omega) (by first | rfl | assumption) (by first | (exact hc_o (by first | assumption | (exact ⟨by decide, rfl⟩))) | assumption | (exact (hc_far (by omega)).trans (by assumption))) (by omega) (by first | rfl | assumption) (by first | (exact hc_ai (by omega) (by first | assumption | (exact (ht9 (by assumption)).2.1) | (exact (ht9 (by assumption)).2.2.1) | (exact (ht9 (by assumption)).2.2.2) | rfl) (by decide)) | assumption | (exact (hc_far (by omega)).trans (by assumption))) (Or.inl (by omega)) (by first | assumption | (exact ix_of (by omega) (by omega)) | (exact ⟨by decide, rfl, by decide⟩)) (by first | (exact hc_o (by first | assumption | (exact ⟨by decide, rfl⟩))) | assumption | (exact (hc_far (by omega)).trans (by assumption))) (by omega) ?_
      rw [show a.AI 2 3 1 m = Int32.ofNat x from hrow.1 1 (by decide) (by decide)]
      refine (cv_E hn (h.rk hfl hS) 100 (Nat.le_refl _)).2 x 1 _ false _ (by omega) (by omega) hxk (fun r1 l1 b1 c1 => ?_)
      rw [hEE] at c1
      refine b_106_48 _ _ _ (by first | assumption | (exact mL_get (by decide)) | (rw [mL_len]; decide) | (simp only [mL_set]; exact mL_get (by decide)) | (simp only [mL_set, mL_len]; decide) | (exact va_eq) | (exact (va_ne (by omega)).trans (by assumption)) | (exact (va_ne (by omega)).trans va_eq) | (exact (va_ne (by omega)).trans ((va_ne (by omega)).trans (by assumption))) | (exact (va_ne (by omega)).trans ((va_ne (by omega)).trans ((va_ne (by omega)).trans (by assumption)))) | rfl | (exact Or.inl rfl) | (exact Or.inr rfl) | omega | (exact Nat.le_of_ble_eq_true rfl) | decide | (exact ⟨by decide, rfl, by decide⟩)) ?_
      refine K r1 l1 _ b1 ?_ cMf.re.cvL cvL_er (cvL_fl hfl) h.cvL
      rw [hu, if_pos rfl]
      exact c1
  · intro z0
    refine b_106_22 _ _ _ ?_
    refine no ?_
    rw [hu, if_pos]
    intro h
    refine z0 ?_
    rw [h0, hI0, ← h]
end
