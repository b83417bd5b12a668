/-! the first object: close, pass time, let -/
theorem of_d4 : ∀ k : Fin 32, Int32.ofNat k.1 / 4 = Int32.ofNat (k.1 / 4) ∧ Int32.ofNat k.1 - Int32.ofNat (k.1 / 4) * 4 = Int32.ofNat (k.1 % 4) := by decide +kernel
def cfl (l : Bool) : Int32 := if l = true then 1 else 0
section
variable {e n sl N : Nat} {a a0 a1 a2 : mh_A} {f0 : Nat → mi_C} {Q : (Option Value ⊕ Nat) → mi_H → Prop} {p q i j c k r m : Nat} {tb : Nat → ms_N} {lo hi v w : Int64} {Z : mv_Z}
theorem cM.R (h : cM a p q N tb lo hi Z) : a.R 7 p = q ∧ mh_o (a.R 7 p) 9 ∧ mh_o q 9 ∧ p < 68 ∧ mh_o p 7 ∧ mh_o (p + 12) 10 ∧ mh_o (p + 1) 8 := ⟨h.2.1.1, by rw [h.2.1.1]; exact h.2.2.2.1.1, h.2.2.2.1.1, by have := h.1.2.2.2; omega, h.1.1, h.1.2.2.1, h.1.2.1⟩
theorem cM.row (h : cM a p q N tb lo hi Z) (hm : m < N) : cRow a (tb m) m := (h.2.2.1.2.1 m (Nat.zero_le _) hm).1
theorem cM.rk (h : cM a p q N tb lo hi Z) (hfl : a.I 10 (p + 12) 4 = 0) (hS : mv_ok Z.S) : cRk a (p + 12) N tb Z.S lo hi := ⟨h.1.2.2.1, by rw [h.2.1.2.1]; exact h.2.2.2.1, h.2.1.2.2.2.2.1, h.2.1.2.2.2.2.2, hfl, h.2.2.1.1, h.2.2.1.2.1, hS, h.2.2.1.2.2⟩
theorem cvL_fl {l : Bool} (hfl : a.I 10 (p + 12) 4 = 0) : (cvL (p + 12) a l).I 10 (p + 12) 4 = cfl l := by
  cases l with
  | true => exact mh_u_at (X := a.I) (c := 10) (p := p + 12) (k := 4) (v := 1)
  | false => exact hfl
theorem cvL_er {l : Bool} : (cvL (p + 12) a l).I 7 p 6 = a.I 7 p 6 := by cases l <;> rfl
theorem cm_close (hn : 575 ≤ n) (h : cM a p q N tb lo hi Z) (K0 : mv_ff Z.S.ac 32 0 = 32 → Q (.inl (some (.int 0))) (n, sl, hc a f0)) (K1 : mv_ff Z.S.ac 32 0 < 32 → ∀ a', cMf p q a a' → a'.I 7 p 6 = a.I 7 p 6 → a'.I 10 (p + 12) 4 = a.I 10 (p + 12) 4 → cM a' p q N tb lo hi (mv_cl Z (mv_ff Z.S.ac 32 0)) → Q (.inl (some (.int 1))) (n, sl, hc a' f0)) : mi_W (e + 1) 83 0 (mi_en 3 [.ref p]) [] (n, sl, hc a f0) Q := by
  obtain ⟨hR, hqo, hq, hp68, hpo, hro, heo⟩ := h.R
  have hq5 := hq.1
  have hqo5 := hqo.1
  have h9 := ht9 hq
  have h9' := ht9 hqo
  have hac := h.2.2.2.1.2.2.2.1
  generalize hk : mv_ff Z.S.ac 32 0 = k at *
  refine b_83_0 _ _ _ (by first | (exact hc_o (by first | assumption | (exact ⟨by decide, rfl⟩))) | assumption | (exact (hc_far (by omega)).trans (by assumption))) (by omega) (by first | rfl | assumption) (by first | (exact hc_o (by first | assumption | (exact ⟨by decide, rfl⟩))) | assumption | (exact (hc_far (by omega)).trans (by assumption))) (by omega) ?_
  rw [hR]
  refine b_84_0 _ _ _ ?_
  refine cs_ff hn hq Z.S.ac hac 32 0 rfl (fun hk1 => ?_) (fun hk0 => ?_)
  · rw [hk] at hk1
    rw [hk]
    refine b_83_7 _ _ _ ?_ ?_
    · intro z7
      exact absurd z7 (of_nn (by omega))
    · intro z7
      refine b_83_12 _ _ _ ?_ ?_
      · intro z12
        have hix := ix_of (w := k) (m := 32) (by omega) (by omega)
        refine b_83_20 _ _ _ _ _ _ (by first | (exact hc_o (by first | assumption | (exact ⟨by decide, rfl⟩))) | assumption | (exact (hc_far (by omega)).trans (by assumption))) (by omega) (by first | rfl | assumption) (by first | (exact hc_o (by first | assumption | (exact ⟨by decide, rfl⟩))) | assumption | (exact (hc_far (by omega)).trans (by assumption))) (by omega) (by first | rfl | assumption) (by first | (exact hc_o (by first | assumption | (exact ⟨by decide, rfl⟩))) | assumption | (exact (hc_far (by omega)).trans (by assumption))) (by omega) (by first | rfl | assumption) (by first | (exact hc_al (by omega) (by first | assumption | (exact (ht9 (by assumption)).2.1) | (exact (ht9 (by assumption)).2.2.1) | (exact (ht9 (by assumption)).2.2.2) | rfl)) | assumption | (exact (hc_far (by omega)).trans (by assumption))) (by omega) (by first | assumption | (exact ix_of (by omega) (by omega)) | (exact ⟨by decide, rfl, by decide⟩)) (by first | (exact hc_o (by first | assumption | (exact ⟨by decide, rfl⟩))) | assumption | (exact (hc_far (by omega)).trans (by assumption))) (by omega) ?_
        obtain ⟨d1, d2⟩ := of_d4 ⟨k, hk1⟩
        dsimp only at d1 d2
        rw [d1, d2, hR, hac k hk1]
        refine ce_pay hn h (fun a1 f1 e1 l1 h1 => ?_)
        have hR1 := h1.R
        have hqo1 := hR1.2.1
        have h91 := ht9 hqo1
        have hqo15 := hqo1.1
        refine b_83_45 _ _ _ _ _ _ (by first | (exact hc_o (by first | assumption | (exact ⟨by decide, rfl⟩))) | assumption | (exact (hc_far (by omega)).trans (by assumption))) (by omega) (by first | rfl | assumption) (by first | (exact hc_o (by first | assumption | (exact ⟨by decide, rfl⟩))) | assumption | (exact (hc_far (by omega)).trans (by assumption))) (by omega) (by first | rfl | assumption) (by first | (exact hc_al (by omega) (by first | assumption | (exact (ht9 (by assumption)).2.1) | (exact (ht9 (by assumption)).2.2.1) | (exact (ht9 (by assumption)).2.2.2) | rfl)) | assumption | (exact (hc_far (by omega)).trans (by assumption))) (by omega) (by first | assumption | (exact ix_of (by omega) (by omega)) | (exact ⟨by decide, rfl, by decide⟩)) ?_
        refine hw_Q (hw_AL (by omega) (by first | assumption | (exact (ht9 (by assumption)).2.1) | (exact (ht9 (by assumption)).2.2.1) | (exact (ht9 (by assumption)).2.2.2) | rfl)) ?_
        rw [hR1.1]
        exact K1 hk1 _ (f1.sAL (Or.inl ⟨rfl, rfl⟩)) e1 l1 h1.ac
      · intro z12
        exact absurd ((i_lt (b := 32) rfl rfl (by omega) (by omega)).mpr hk1) z12
  · rw [hk] at hk0
    refine b_83_7 _ _ _ ?_ ?_
    · intro z7
      refine b_83_18 _ _ _ ?_
      exact K0 hk0
    · intro z7
      first | (exact absurd z7 (by decide)) | (exact absurd (by decide) z7) | (exact absurd rfl z7) | (exact absurd z7 (of_nn (by omega))) | (exact absurd (of_np (by omega)) z7) | omega
theorem cm_pass {A B D x y z : Nat} {u : Nat × Nat} (hn : 575 ≤ n) (h : cM a p q N tb lo hi Z) (hm : m < N) (hcm : tb m = (4, A, B, D, v, x, y, z, u)) (hy : y ≤ 800) (K0 : hi < v → Q (.inl (some (.int 0))) (n, sl, hc a f0)) (K3 : ¬ hi < v → lo < v → Q (.inl (some (.int 0))) (n, sl, hc (a.sI 7 p 6 3) f0)) (K1 : ¬ hi < v → ¬ lo < v → Q (.inl (some (.int 1))) (n, sl, hc (a.sI 9 q 0 (Int32.ofNat y)) f0)) : mi_W e 101 0 (mi_en 4 [.ref p, .int (Int32.ofNat m)]) [] (n, sl, hc a f0) Q := by
  obtain ⟨hR, hqo, hq, hp68, hpo, hro, heo⟩ := h.R
  have hq5 := hq.1
  have hqo5 := hqo.1
  have hN8 := h.2.2.1.1.2
  have hrow := h.row hm
  rw [hcm] at hrow
  have hv : a.AL 2 3 9 m = v := hrow.2.1
  have h3 : a.AI 2 3 3 m = Int32.ofNat y := hrow.1 3 (by decide) (by decide)
  have hlo := h.2.1.2.2.1
  have hhi := h.2.1.2.2.2.1
  have hix := ix_of (w := m) (m := 800) (by omega) (by omega)
  refine b_101_0 _ _ _ _ _ _ (by first | (exact hc_o (by first | assumption | (exact ⟨by decide, rfl⟩))) | assumption | (exact (hc_far (by omega)).trans (by assumption))) (by omega) (by first | rfl | assumption) (by first | (exact hc_o (by first | assumption | (exact ⟨by decide, rfl⟩))) | assumption | (exact (hc_far (by omega)).trans (by assumption))) (by omega) (by first | rfl | assumption) (by first | (exact hc_al (by omega) (by first | assumption | (exact (ht9 (by assumption)).2.1) | (exact (ht9 (by assumption)).2.2.1) | (exact (ht9 (by assumption)).2.2.2) | rfl)) | assumption | (exact (hc_far (by omega)).trans (by assumption))) (by omega) (by first | assumption | (exact ix_of (by omega) (by omega)) | (exact ⟨by decide, rfl, by decide⟩)) (by first | (exact hc_o (by first | assumption | (exact ⟨by decide, rfl⟩))) | assumption | (exact (hc_far (by omega)).trans (by assumption))) (by omega) (by first | rfl | assumption) ?_ ?_
  · intro z0
    rw [hhi, hv] at z0
    refine b_101_21 _ _ _ (by first | (exact hc_o (by first | assumption | (exact ⟨by decide, rfl⟩))) | assumption | (exact (hc_far (by omega)).trans (by assumption))) (by omega) (by first | rfl | assumption) ?_ ?_
    · intro z21
      rw [hlo, hv] at z21
      refine b_101_37 _ _ _ _ _ _ (by first | (exact hc_o (by first | assumption | (exact ⟨by decide, rfl⟩))) | assumption | (exact (hc_far (by omega)).trans (by assumption))) (by omega) (by first | rfl | assumption) (by first | (exact hc_o (by first | assumption | (exact ⟨by decide, rfl⟩))) | assumption | (exact (hc_far (by omega)).trans (by assumption))) (by omega) (by first | rfl | assumption) (by first | (exact hc_o (by first | assumption | (exact ⟨by decide, rfl⟩))) | assumption | (exact (hc_far (by omega)).trans (by assumption))) (by omega) (by first | rfl | assumption) (by first | (exact hc_ai (by omega) (by first | assumption | (exact (ht9 (by assumption)).2.1) | (exact (ht9 (by assumption)).2.2.1) | (exact (ht9 (by assumption)).2.2.2) | rfl) (by decide)) | assumption | (exact (hc_far (by omega)).trans (by assumption))) (Or.inl (by omega)) (by first | assumption | (exact ix_of (by omega) (by omega)) | (exact ⟨by decide, rfl, by decide⟩)) (by first | (exact hc_o (by first | assumption | (exact ⟨by decide, rfl⟩))) | assumption | (exact (hc_far (by omega)).trans (by assumption))) (by omega) (Nat.le_of_ble_eq_true rfl) ?_
      refine hw_Q (hw_I (by first | assumption | (exact ⟨by decide, rfl⟩)) (by decide)) ?_
      rw [hR, h3]
      exact K1 (lg_ge.mp z0) (Int64.not_lt.mpr (lg_le.mp z21))
    · intro z21
      rw [hlo, hv] at z21
      refine b_101_30 _ _ _ (by first | (exact hc_o (by first | assumption | (exact ⟨by decide, rfl⟩))) | assumption | (exact (hc_far (by omega)).trans (by assumption))) (by omega) (Nat.le_of_ble_eq_true rfl) ?_
      refine hw_Q (hw_I (by first | assumption | (exact ⟨by decide, rfl⟩)) (by decide)) ?_
      exact K3 (lg_ge.mp z0) (Int64.not_le.mp (fun h => z21 (lg_le.mpr h)))
  · intro z0
    rw [hhi, hv] at z0
    refine b_101_19 _ _ _ ?_
    exact K0 (Classical.not_not.mp (fun h => z0 (lg_ge.mpr h)))
theorem cm_let {A B D x y z : Nat} {u : Nat × Nat} (hn : 575 ≤ n) (h : cM a p q N tb lo hi Z) (hfl : a.I 10 (p + 12) 4 = 0) (hS : mv_ok Z.S) (hm : m < N) (hcm : tb m = (5, A, B, D, v, x, y, z, u)) (hy : y ≤ 800) (hA : A < 8) (hx : mz_ok tb N 100 1 x) (K : ∀ r l a', cvo id ((mv_E tb Z.S lo hi 100).1 x) false r l → cMf p q a a' → a'.I 7 p 6 = a.I 7 p 6 → a'.I 10 (p + 12) 4 = cfl l → cM a' p q N tb lo hi (mv_let A y m Z r) → Q (.inl none) (n, sl, hc a' f0)) : mi_W (e + 110) 102 0 (mi_en 5 [.ref p, .int (Int32.ofNat m)]) [] (n, sl, hc a f0) Q := by
  obtain ⟨hR, hqo, hq, hp68, hpo, hro, heo⟩ := h.R
  have hq5 := hq.1
  have hqo5 := hqo.1
  have hp12 := hro.1
  have hN8 := h.2.2.1.1.2
  have hrow := h.row hm
  rw [hcm] at hrow
  have h1 : a.AI 2 3 1 m = Int32.ofNat x := hrow.1 1 (by decide) (by decide)
  have h4 : a.AI 2 3 4 m = Int32.ofNat A := hrow.1 4 (by decide) (by decide)
  have hix := ix_of (w := m) (m := 800) (by omega) (by omega)
  refine b_102_0 _ _ _ _ _ _ _ _ _ (by first | (exact hc_o (by first | assumption | (exact ⟨by decide, rfl⟩))) | assumption | (exact (hc_far (by omega)).trans (by assumption))) (by omega) (by first | rfl | assumption) (by first | (exact hc_o (by first | assumption | (exact ⟨by decide, rfl⟩))) | assumption | (exact (hc_far (by omega)).trans (by assumption))) (by omega) (by first | rfl | assumption) (by first | (exact hc_ai (by omega) (by first | assumption | (exact (ht9 (by assumption)).2.1) | (exact (ht9 (by assumption)).2.2.1) | (exact (ht9 (by assumption)).2.2.2) | rfl) (by decide)) | assumption | (exact (hc_far (by omega)).trans (by assumption))) (Or.inl (by omega)) (by first | assumption | (exact ix_of (by omega) (by omega)) | (exact ⟨by decide, rfl, by decide⟩)) (by first | (exact hc_o (by first | assumption | (exact ⟨by decide, rfl⟩))) | assumption | (exact (hc_far (by omega)).trans (by assumption))) (by omega) (by first | rfl | assumption) (by first | (exact hc_o (by first | assumption | (exact ⟨by decide, rfl⟩))) | assumption | (exact (hc_far (by omega)).trans (by assumption))) (by omega) (by first | rfl | assumption) (by first | (exact hc_o (by first | assumption | (exact ⟨by decide, rfl⟩))) | assumption | (exact (hc_far (by omega)).trans (by assumption))) (by omega) (by first | rfl | assumption) (by first | (exact hc_ai (by omega) (by first | assumption | (exact (ht9 (by assumption)).2.1) | (exact (ht9 (by assumption)).2.2.1) | (exact (ht9 (by assumption)).2.2.2) | rfl) (by decide)) | assumption | (exact (hc_far (by omega)).trans (by assumption))) (Or.inl (by omega)) (by first | assumption | (exact ix_of (by omega) (by omega)) | (exact ⟨by decide, rfl, by decide⟩)) (by first | (exact hc_o (by first | assumption | (exact ⟨by decide, rfl⟩))) | assumption | (exact (hc_far (by omega)).trans (by assumption))) (by omega) ?_
  rw [h1]
  refine (cv_E hn (h.rk hfl hS) 100 (Nat.le_refl _)).1 x 1 _ false _ (by omega) (by omega) hx (fun r1 l1 c1 => ?_)
  have k1 := h.cvL (l := l1)
  have f1 := (cMf.re (p := p) (q := q) (a := a)).cvL (l := l1)
  have g1 := cvL_fl (l := l1) hfl
  have e1 := cvL_er (p := p) (a := a) (l := l1)
  generalize cvL (p + 12) a l1 = a1 at *
  have hR1 := k1.R
  have hqo1 := hR1.2.1
  have hqo15 := hqo1.1
  refine b_102_27 _ _ _ (by first | (exact hc_o (by first | assumption | (exact ⟨by decide, rfl⟩))) | assumption | (exact (hc_far (by omega)).trans (by assumption))) (by omega) (by first | rfl | assumption) (by first | (exact hc_o (by first | assumption | (exact ⟨by decide, rfl⟩))) | assumption | (exact (hc_far (by omega)).trans (by assumption))) (by omega) ?_
  rw [hR1.1, h4]
  refine cv_used hn hq (fun hu => ?_) (fun hu => ?_)
  · have hus : (Z.S.us A).isSome = true := (k1.2.2.2.1.2.2.2.2.2.2.2 A hA).mp hu
    refine b_102_36 _ _ _ ?_ ?_
    · intro z36
      first | (exact absurd z36 (by decide)) | (exact absurd (by decide) z36) | (exact absurd rfl z36) | (exact absurd z36 (of_nn (by omega))) | (exact absurd (of_np (by omega)) z36) | omega
    · intro z36
      refine b_102_39 _ _ _ (by first | (exact hc_o (by first | assumption | (exact ⟨by decide, rfl⟩))) | assumption | (exact (hc_far (by omega)).trans (by assumption))) (by omega) (by first | rfl | assumption) (by first | (exact hc_o (by first | assumption | (exact ⟨by decide, rfl⟩))) | assumption | (exact (hc_far (by omega)).trans (by assumption))) (by omega) ?_
      refine ce_warn (x := 4) hn k1 (fun a2 f2' e2' g2' k2' => ?_)
      have f2 := f1.trans f2'
      have e2 := e2'.trans e1
      have g2 := g2'.trans g1
      have k2 : cM a2 p q N tb lo hi (if (Z.S.us A).isSome = true then Z.wn 4 m else Z) := by rw [if_pos hus]; exact k2'
      have hR2 := k2.R
      have hqo2 := hR2.2.1
      have hqo25 := hqo2.1
      have hrow2 := k2.row hm
      rw [hcm] at hrow2
      have h32 : a2.AI 2 3 3 m = Int32.ofNat y := hrow2.1 3 (by decide) (by decide)
      refine b_102_48 _ _ _ (by first | (exact hc_o (by first | assumption | (exact ⟨by decide, rfl⟩))) | assumption | (exact (hc_far (by omega)).trans (by assumption))) (by omega) (by first | rfl | assumption) (by first | (exact hc_o (by first | assumption | (exact ⟨by decide, rfl⟩))) | assumption | (exact (hc_far (by omega)).trans (by assumption))) (by omega) ?_
      rw [hR2.1]
      refine cs_su hn hq hA ?_
      have k3 := k2.us (v := r1) hA
      have f3 := (f2.sAL (c := 9) (r := q) (k := 4) (g := vp_updL (a2.AL 9 q 4) A r1) (Or.inl ⟨rfl, rfl⟩)).sI (c := 9) (r := q) (k := 6) (v := a2.I 9 q 6 ||| (1 <<< (Int32.ofNat A &&& 31))) (Or.inl ⟨rfl, rfl⟩)
      have e3 : ((a2.sAL 9 q 4 (vp_updL (a2.AL 9 q 4) A r1)).sI 9 q 6 (a2.I 9 q 6 ||| (1 <<< (Int32.ofNat A &&& 31)))).I 7 p 6 = a.I 7 p 6 := e2
      have g3 : ((a2.sAL 9 q 4 (vp_updL (a2.AL 9 q 4) A r1)).sI 9 q 6 (a2.I 9 q 6 ||| (1 <<< (Int32.ofNat A &&& 31)))).I 10 (p + 12) 4 = cfl l1 := g2
      have h33 : ((a2.sAL 9 q 4 (vp_updL (a2.AL 9 q 4) A r1)).sI 9 q 6 (a2.I 9 q 6 ||| (1 <<< (Int32.ofNat A &&& 31)))).AI 2 3 3 m = Int32.ofNat y := h32
      generalize (a2.sAL 9 q 4 (vp_updL (a2.AL 9 q 4) A r1)).sI 9 q 6 (a2.I 9 q 6 ||| (1 <<< (Int32.ofNat A &&& 31))) = a3 at *
      have hR3 := k3.R
      have hqo3 := hR3.2.1
      have hqo35 := hqo3.1
      refine b_102_57 _ _ _ _ _ _ (by first | (exact hc_o (by first | assumption | (exact ⟨by decide, rfl⟩))) | assumption | (exact (hc_far (by omega)).trans (by assumption))) (by omega) (by first | rfl | assumption) (by first | (exact hc_o (by first | assumption | (exact ⟨by decide, rfl⟩))) | assumption | (exact (hc_far (by omega)).trans (by assumption))) (by omega) (by first | rfl | assumption) (by first | (exact hc_o (by first | assumption | (exact ⟨by decide, rfl⟩))) | assumption | (exact (hc_far (by omega)).trans (by assumption))) (by omega) (by first | rfl | assumption) (by first | (exact hc_ai (by omega) (by first | assumption | (exact (ht9 (by assumption)).2.1) | (exact (ht9 (by assumption)).2.2.1) | (exact (ht9 (by assumption)).2.2.2) | rfl) (by decide)) | assumption | (exact (hc_far (by omega)).trans (by assumption))) (Or.inl (by omega)) (by first | assumption | (exact ix_of (by omega) (by omega)) | (exact ⟨by decide, rfl, by decide⟩)) (by first | (exact hc_o (by first | assumption | (exact ⟨by decide, rfl⟩))) | assumption | (exact (hc_far (by omega)).trans (by assumption))) (by omega) (Nat.le_of_ble_eq_true rfl) ?_
      refine hw_Q (hw_I (by first | assumption | (exact ⟨by decide, rfl⟩)) (by decide)) ?_
      rw [hR3.1, h33]
      exact K r1 l1 _ c1 (f3.sI (Or.inl ⟨rfl, rfl⟩)) e3 g3 (k3.go hy)
  · have hus : ¬ (Z.S.us A).isSome = true := fun h => hu ((k1.2.2.2.1.2.2.2.2.2.2.2 A hA).mpr h)
    obtain ⟨a2, f2, e2, g2, k2⟩ : ∃ a2, cMf p q a a2 ∧ a2.I 7 p 6 = a.I 7 p 6 ∧ a2.I 10 (p + 12) 4 = cfl l1 ∧ hc a2 f0 = hc a1 f0 ∧ cM a2 p q N tb lo hi (if (Z.S.us A).isSome = true then Z.wn 4 m else Z) := ⟨a1, f1, e1, g1, rfl, by rw [if_neg hus]; exact k1⟩
    obtain ⟨k2e, k2⟩ := k2
    rw [← k2e]
    refine b_102_36 _ _ _ ?_ ?_
    · intro z36
      have hR2 := k2.R
      have hqo2 := hR2.2.1
      have hqo25 := hqo2.1
      have hrow2 := k2.row hm
      rw [hcm] at hrow2
      have h32 : a2.AI 2 3 3 m = Int32.ofNat y := hrow2.1 3 (by decide) (by decide)
      refine b_102_48 _ _ _ (by first | (exact hc_o (by first | assumption | (exact ⟨by decide, rfl⟩))) | assumption | (exact (hc_far (by omega)).trans (by assumption))) (by omega) (by first | rfl | assumption) (by first | (exact hc_o (by first | assumption | (exact ⟨by decide, rfl⟩))) | assumption | (exact (hc_far (by omega)).trans (by assumption))) (by omega) ?_
      rw [hR2.1]
      refine cs_su hn hq hA ?_
      have k3 := k2.us (v := r1) hA
      have f3 := (f2.sAL (c := 9) (r := q) (k := 4) (g := vp_updL (a2.AL 9 q 4) A r1) (Or.inl ⟨rfl, rfl⟩)).sI (c := 9) (r := q) (k := 6) (v := a2.I 9 q 6 ||| (1 <<< (Int32.ofNat A &&& 31))) (Or.inl ⟨rfl, rfl⟩)
      have e3 : ((a2.sAL 9 q 4 (vp_updL (a2.AL 9 q 4) A r1)).sI 9 q 6 (a2.I 9 q 6 ||| (1 <<< (Int32.ofNat A &&& 31)))).I 7 p 6 = a.I 7 p 6 := e2
      have g3 : ((a2.sAL 9 q 4 (vp_updL (a2.AL 9 q 4) A r1)).sI 9 q 6 (a2.I 9 q 6 ||| (1 <<< (Int32.ofNat A &&& 31)))).I 10 (p + 12) 4 = cfl l1 := g2
      have h33 : ((a2.sAL 9 q 4 (vp_updL (a2.AL 9 q 4) A r1)).sI 9 q 6 (a2.I 9 q 6 ||| (1 <<< (Int32.ofNat A &&& 31)))).AI 2 3 3 m = Int32.ofNat y := h32
      generalize (a2.sAL 9 q 4 (vp_updL (a2.AL 9 q 4) A r1)).sI 9 q 6 (a2.I 9 q 6 ||| (1 <<< (Int32.ofNat A &&& 31))) = a3 at *
      have hR3 := k3.R
      have hqo3 := hR3.2.1
      have hqo35 := hqo3.1
      refine b_102_57 _ _ _ _ _ _ (by first | (exact hc_o (by first | assumption | (exact ⟨by decide, rfl⟩))) | assumption | (exact (hc_far (by omega)).trans (by assumption))) (by omega) (by first | rfl | assumption) (by first | (exact hc_o (by first | assumption | (exact ⟨by decide, rfl⟩))) | assumption | (exact (hc_far (by omega)).trans (by assumption))) (by omega) (by first | rfl | assumption) (by first | (exact hc_o (by first | assumption | (exact ⟨by decide, rfl⟩))) | assumption | (exact (hc_far (by omega)).trans (by assumption))) (by omega) (by first | rfl | assumption) (by first | (exact hc_ai (by omega) (by first | assumption | (exact (ht9 (by assumption)).2.1) | (exact (ht9 (by assumption)).2.2.1) | (exact (ht9 (by assumption)).2.2.2) | rfl) (by decide)) | assumption | (exact (hc_far (by omega)).trans (by assumption))) (Or.inl (by omega)) (by first | assumption | (exact ix_of (by omega) (by omega)) | (exact ⟨by decide, rfl, by decide⟩)) (by first | (exact hc_o (by first | assumption | (exact ⟨by decide, rfl⟩))) | assumption | (exact (hc_far (by omega)).trans (by assumption))) (by omega) (Nat.le_of_ble_eq_true rfl) ?_
      refine hw_Q (hw_I (by first | assumption | (exact ⟨by decide, rfl⟩)) (by decide)) ?_
      rw [hR3.1, h33]
      exact K r1 l1 _ c1 (f3.sI (Or.inl ⟨rfl, rfl⟩)) e3 g3 (k3.go hy)
    · intro z36
      first | (exact absurd z36 (by decide)) | (exact absurd (by decide) z36) | (exact absurd rfl z36) | (exact absurd z36 (of_nn (by omega))) | (exact absurd (of_np (by omega)) z36) | omega
end
