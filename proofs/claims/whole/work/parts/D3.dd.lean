/-! the first object: values and truths -/
section
variable {e n sl N : Nat} {a : mh_A} {f0 : Nat → mi_C} {Q : (Option Value ⊕ Nat) → mi_H → Prop} {p k m t : Nat} {tb : Nat → ms_N} {S : mv_S} {lo hi : Int64}
theorem cv_v10 {A B D x y z : Nat} {v : Int64} {q : Nat × Nat} (hn : 575 ≤ n) (hR : cRk a p N tb S lo hi) (hk : k ≤ 99) (ht : t + (k + 1) ≤ 101) (hm : m < N) (IV : cIV n sl f0 a p N tb S lo hi k) (IT : cIT n sl f0 a p N tb S lo hi k) (he : k ≤ e) (hcm : tb m = (10, A, B, D, v, x, y, z, q)) (hok : mz_ok tb N (k + 1) 1 m) (K : ∀ r l', cvo id (mv_v S lo hi (mv_E tb S lo hi k) (10, A, B, D, v, x, y, z, q)) false r l' → Q (.inl (some (.long r))) (n, sl, hc (cvL p a l') f0)) : mi_W (e + 4) 87 0 (mi_en 5 [.ref p, .int (Int32.ofNat m), .int (Int32.ofNat t)]) [] (n, sl, hc a f0) Q := by
  obtain ⟨hp, hS, hlo, hhi, hfl, ⟨hN, hN8⟩, hrg, hSo, hto⟩ := hR
  have hp5 := hp.1
  have hq := hS.1
  obtain ⟨-, -, had, hx, -, hy, hz⟩ := hok
  have hrow := (hrg m (Nat.zero_le _) hm).1
  rw [hcm] at had hx hy hz hrow
  unfold mz_ad at had
  dsimp only at had hx hy hz
  have hq5 := hq.1
  have hix := ix_of (w := m) (m := 800) (by omega) (by omega)
  have h0 : a.AI 2 3 0 m = 37 := hrow.1 0 (by decide) (by decide)
  refine b_87_0 _ _ _ (by first | (exact hc_o (by first | assumption | (exact ⟨by decide, rfl⟩))) | assumption | (exact (hc_far (by omega)).trans (by assumption))) (by omega) (by first | rfl | assumption) ?_ ?_
  · intro z0
    exact absurd hfl z0
  · intro z0
    refine b_87_7 _ _ _ ?_ ?_
    · intro z7
      exact absurd ((i_lt (a := 100) rfl rfl (by omega) (by omega)).mp z7) (by omega)
    · intro z7
      refine b_87_13 _ _ _ (by first | (exact hc_o (by first | assumption | (exact ⟨by decide, rfl⟩))) | assumption | (exact (hc_far (by omega)).trans (by assumption))) (by omega) (by first | rfl | assumption) (by first | (exact hc_o (by first | assumption | (exact ⟨by decide, rfl⟩))) | assumption | (exact (hc_far (by omega)).trans (by assumption))) (by omega) ?_
      refine cv_has hn hN hN8 (by omega) (fun _ => ?_) (fun h => ?_)
      · refine b_87_21 _ _ _ ?_ ?_
        · intro z21
          refine b_87_26 (t48 := 180) _ _ _ _ _ _ _ _ _ _ _ _ (by first | (exact hc_o (by first | assumption | (exact ⟨by decide, rfl⟩))) | assumption | (exact (hc_far (by omega)).trans (by assumption))) (by omega) (by first | rfl | assumption) (by first | (exact hc_o (by first | assumption | (exact ⟨by decide, rfl⟩))) | assumption | (exact (hc_far (by omega)).trans (by assumption))) (by omega) (by first | rfl | assumption) (by first | (exact hc_ai (by omega) (by first | assumption | (exact (ht9 (by assumption)).2.1) | (exact (ht9 (by assumption)).2.2.1) | (exact (ht9 (by assumption)).2.2.2) | rfl) (by decide)) | assumption | (exact (hc_far (by omega)).trans (by assumption))) (Or.inl (by omega)) (by first | assumption | (exact ix_of (by omega) (by omega)) | (exact ⟨by decide, rfl, by decide⟩)) (by first | (exact hc_o (by first | assumption | (exact ⟨by decide, rfl⟩))) | assumption | (exact (hc_far (by omega)).trans (by assumption))) (by omega) (by first | rfl | assumption) (by first | (exact hc_o (by first | assumption | (exact ⟨by decide, rfl⟩))) | assumption | (exact (hc_far (by omega)).trans (by assumption))) (by omega) (by first | rfl | assumption) (by first | (exact hc_ai (by omega) (by first | assumption | (exact (ht9 (by assumption)).2.1) | (exact (ht9 (by assumption)).2.2.1) | (exact (ht9 (by assumption)).2.2.2) | rfl) (by decide)) | assumption | (exact (hc_far (by omega)).trans (by assumption))) (Or.inl (by omega)) (by first | assumption | (exact ix_of (by omega) (by omega)) | (exact ⟨by decide, rfl, by decide⟩)) (by first | (exact hc_o (by first | assumption | (exact ⟨by decide, rfl⟩))) | assumption | (exact (hc_far (by omega)).trans (by assumption))) (by omega) (by first | rfl | assumption) (by first | (exact hc_o (by first | assumption | (exact ⟨by decide, rfl⟩))) | assumption | (exact (hc_far (by omega)).trans (by assumption))) (by omega) (by first | rfl | assumption) (by first | (exact hc_ai (by omega) (by first | assumption | (exact (ht9 (by assumption)).2.1) | (exact (ht9 (by assumption)).2.2.1) | (exact (ht9 (by assumption)).2.2.2) | rfl) (by decide)) | assumption | (exact (hc_far (by omega)).trans (by assumption))) (Or.inl (by omega)) (by first | assumption | (exact ix_of (by omega) (by omega)) | (exact ⟨by decide, rfl, by decide⟩)) (by rw [h0]; decide +kernel) ?_
          refine b_87_180 _ _ _ _ _ _ (by first | (exact hc_o (by first | assumption | (exact ⟨by decide, rfl⟩))) | assumption | (exact (hc_far (by omega)).trans (by assumption))) (by omega) (by first | rfl | assumption) (by first | (exact hc_o (by first | assumption | (exact ⟨by decide, rfl⟩))) | assumption | (exact (hc_far (by omega)).trans (by assumption))) (by omega) (by first | rfl | assumption) (by first | (exact hc_al (by omega) (by first | assumption | (exact (ht9 (by assumption)).2.1) | (exact (ht9 (by assumption)).2.2.1) | (exact (ht9 (by assumption)).2.2.2) | rfl)) | assumption | (exact (hc_far (by omega)).trans (by assumption))) (by omega) (by first | assumption | (exact ix_of (by omega) (by omega)) | (exact ⟨by decide, rfl, by decide⟩)) ?_
          exact K _ false ⟨rfl, hrow.2.1⟩
        · intro z21
          first | (exact absurd z21 (by decide)) | (exact absurd (by decide) z21) | (exact absurd rfl z21) | (exact absurd z21 (of_nn (by omega))) | (exact absurd (of_np (by omega)) z21) | omega
      · exact absurd hm h
theorem cv_v11 {A B D x y z : Nat} {v : Int64} {q : Nat × Nat} (hn : 575 ≤ n) (hR : cRk a p N tb S lo hi) (hk : k ≤ 99) (ht : t + (k + 1) ≤ 101) (hm : m < N) (IV : cIV n sl f0 a p N tb S lo hi k) (IT : cIT n sl f0 a p N tb S lo hi k) (he : k ≤ e) (hcm : tb m = (11, A, B, D, v, x, y, z, q)) (hok : mz_ok tb N (k + 1) 1 m) (K : ∀ r l', cvo id (mv_v S lo hi (mv_E tb S lo hi k) (11, A, B, D, v, x, y, z, q)) false r l' → Q (.inl (some (.long r))) (n, sl, hc (cvL p a l') f0)) : mi_W (e + 4) 87 0 (mi_en 5 [.ref p, .int (Int32.ofNat m), .int (Int32.ofNat t)]) [] (n, sl, hc a f0) Q := by
  obtain ⟨hp, hS, hlo, hhi, hfl, ⟨hN, hN8⟩, hrg, hSo, hto⟩ := hR
  have hp5 := hp.1
  have hq := hS.1
  obtain ⟨-, -, had, hx, -, hy, hz⟩ := hok
  have hrow := (hrg m (Nat.zero_le _) hm).1
  rw [hcm] at had hx hy hz hrow
  unfold mz_ad at had
  dsimp only at had hx hy hz
  have hq5 := hq.1
  have hix := ix_of (w := m) (m := 800) (by omega) (by omega)
  have h0 : a.AI 2 3 0 m = 11 := hrow.1 0 (by decide) (by decide)
  have hA : A < 8 := had.1 (by decide)
  have h4 : a.AI 2 3 4 m = Int32.ofNat A := hrow.1 4 (by decide) (by decide)
  have hD : D < 4 := had.2.2 (by decide)
  have h5 : a.AI 2 3 5 m = Int32.ofNat D := hrow.1 5 (by decide) (by decide)
  refine b_87_0 _ _ _ (by first | (exact hc_o (by first | assumption | (exact ⟨by decide, rfl⟩))) | assumption | (exact (hc_far (by omega)).trans (by assumption))) (by omega) (by first | rfl | assumption) ?_ ?_
  · intro z0
    exact absurd hfl z0
  · intro z0
    refine b_87_7 _ _ _ ?_ ?_
    · intro z7
      exact absurd ((i_lt (a := 100) rfl rfl (by omega) (by omega)).mp z7) (by omega)
    · intro z7
      refine b_87_13 _ _ _ (by first | (exact hc_o (by first | assumption | (exact ⟨by decide, rfl⟩))) | assumption | (exact (hc_far (by omega)).trans (by assumption))) (by omega) (by first | rfl | assumption) (by first | (exact hc_o (by first | assumption | (exact ⟨by decide, rfl⟩))) | assumption | (exact (hc_far (by omega)).trans (by assumption))) (by omega) ?_
      refine cv_has hn hN hN8 (by omega) (fun _ => ?_) (fun h => ?_)
      · refine b_87_21 _ _ _ ?_ ?_
        · intro z21
          refine b_87_26 (t48 := 190) _ _ _ _ _ _ _ _ _ _ _ _ (by first | (exact hc_o (by first | assumption | (exact ⟨by decide, rfl⟩))) | assumption | (exact (hc_far (by omega)).trans (by assumption))) (by omega) (by first | rfl | assumption) (by first | (exact hc_o (by first | assumption | (exact ⟨by decide, rfl⟩))) | assumption | (exact (hc_far (by omega)).trans (by assumption))) (by omega) (by first | rfl | assumption) (by first | (exact hc_ai (by omega) (by first | assumption | (exact (ht9 (by assumption)).2.1) | (exact (ht9 (by assumption)).2.2.1) | (exact (ht9 (by assumption)).2.2.2) | rfl) (by decide)) | assumption | (exact (hc_far (by omega)).trans (by assumption))) (Or.inl (by omega)) (by first | assumption | (exact ix_of (by omega) (by omega)) | (exact ⟨by decide, rfl, by decide⟩)) (by first | (exact hc_o (by first | assumption | (exact ⟨by decide, rfl⟩))) | assumption | (exact (hc_far (by omega)).trans (by assumption))) (by omega) (by first | rfl | assumption) (by first | (exact hc_o (by first | assumption | (exact ⟨by decide, rfl⟩))) | assumption | (exact (hc_far (by omega)).trans (by assumption))) (by omega) (by first | rfl | assumption) (by first | (exact hc_ai (by omega) (by first | assumption | (exact (ht9 (by assumption)).2.1) | (exact (ht9 (by assumption)).2.2.1) | (exact (ht9 (by assumption)).2.2.2) | rfl) (by decide)) | assumption | (exact (hc_far (by omega)).trans (by assumption))) (Or.inl (by omega)) (by first | assumption | (exact ix_of (by omega) (by omega)) | (exact ⟨by decide, rfl, by decide⟩)) (by first | (exact hc_o (by first | assumption | (exact ⟨by decide, rfl⟩))) | assumption | (exact (hc_far (by omega)).trans (by assumption))) (by omega) (by first | rfl | assumption) (by first | (exact hc_o (by first | assumption | (exact ⟨by decide, rfl⟩))) | assumption | (exact (hc_far (by omega)).trans (by assumption))) (by omega) (by first | rfl | assumption) (by first | (exact hc_ai (by omega) (by first | assumption | (exact (ht9 (by assumption)).2.1) | (exact (ht9 (by assumption)).2.2.1) | (exact (ht9 (by assumption)).2.2.2) | rfl) (by decide)) | assumption | (exact (hc_far (by omega)).trans (by assumption))) (Or.inl (by omega)) (by first | assumption | (exact ix_of (by omega) (by omega)) | (exact ⟨by decide, rfl, by decide⟩)) (by rw [h0]; decide +kernel) ?_
          refine b_87_190 _ _ _ _ _ _ _ _ _ (by first | (exact hc_o (by first | assumption | (exact ⟨by decide, rfl⟩))) | assumption | (exact (hc_far (by omega)).trans (by assumption))) (by omega) (by first | rfl | assumption) (by first | (exact hc_o (by first | assumption | (exact ⟨by decide, rfl⟩))) | assumption | (exact (hc_far (by omega)).trans (by assumption))) (by omega) (by first | rfl | assumption) (by first | (exact hc_o (by first | assumption | (exact ⟨by decide, rfl⟩))) | assumption | (exact (hc_far (by omega)).trans (by assumption))) (by omega) (by first | rfl | assumption) (by first | (exact hc_ai (by omega) (by first | assumption | (exact (ht9 (by assumption)).2.1) | (exact (ht9 (by assumption)).2.2.1) | (exact (ht9 (by assumption)).2.2.2) | rfl) (by decide)) | assumption | (exact (hc_far (by omega)).trans (by assumption))) (Or.inl (by omega)) (by first | assumption | (exact ix_of (by omega) (by omega)) | (exact ⟨by decide, rfl, by decide⟩)) (by first | (exact hc_o (by first | assumption | (exact ⟨by decide, rfl⟩))) | assumption | (exact (hc_far (by omega)).trans (by assumption))) (by omega) (by first | rfl | assumption) (by first | (exact hc_o (by first | assumption | (exact ⟨by decide, rfl⟩))) | assumption | (exact (hc_far (by omega)).trans (by assumption))) (by omega) (by first | rfl | assumption) (by first | (exact hc_ai (by omega) (by first | assumption | (exact (ht9 (by assumption)).2.1) | (exact (ht9 (by assumption)).2.2.1) | (exact (ht9 (by assumption)).2.2.2) | rfl) (by decide)) | assumption | (exact (hc_far (by omega)).trans (by assumption))) (Or.inl (by omega)) (by first | assumption | (exact ix_of (by omega) (by omega)) | (exact ⟨by decide, rfl, by decide⟩)) (by first | (exact hc_o (by first | assumption | (exact ⟨by decide, rfl⟩))) | assumption | (exact (hc_far (by omega)).trans (by assumption))) (by omega) ?_
          rw [h4, h5]
          refine cv_bal hn hq hA hD ?_
          refine b_87_215 _ _ _ ?_
          exact K _ false ⟨rfl, hS.2.2.2.1 _ (by omega)⟩
        · intro z21
          first | (exact absurd z21 (by decide)) | (exact absurd (by decide) z21) | (exact absurd rfl z21) | (exact absurd z21 (of_nn (by omega))) | (exact absurd (of_np (by omega)) z21) | omega
      · exact absurd hm h
theorem cv_v12 {A B D x y z : Nat} {v : Int64} {q : Nat × Nat} (hn : 575 ≤ n) (hR : cRk a p N tb S lo hi) (hk : k ≤ 99) (ht : t + (k + 1) ≤ 101) (hm : m < N) (IV : cIV n sl f0 a p N tb S lo hi k) (IT : cIT n sl f0 a p N tb S lo hi k) (he : k ≤ e) (hcm : tb m = (12, A, B, D, v, x, y, z, q)) (hok : mz_ok tb N (k + 1) 1 m) (K : ∀ r l', cvo id (mv_v S lo hi (mv_E tb S lo hi k) (12, A, B, D, v, x, y, z, q)) false r l' → Q (.inl (some (.long r))) (n, sl, hc (cvL p a l') f0)) : mi_W (e + 4) 87 0 (mi_en 5 [.ref p, .int (Int32.ofNat m), .int (Int32.ofNat t)]) [] (n, sl, hc a f0) Q := by
  obtain ⟨hp, hS, hlo, hhi, hfl, ⟨hN, hN8⟩, hrg, hSo, hto⟩ := hR
  have hp5 := hp.1
  have hq := hS.1
  obtain ⟨-, -, had, hx, -, hy, hz⟩ := hok
  have hrow := (hrg m (Nat.zero_le _) hm).1
  rw [hcm] at had hx hy hz hrow
  unfold mz_ad at had
  dsimp only at had hx hy hz
  have hq5 := hq.1
  have hix := ix_of (w := m) (m := 800) (by omega) (by omega)
  have h0 : a.AI 2 3 0 m = 12 := hrow.1 0 (by decide) (by decide)
  have hxk : mz_ok tb N k 1 x := (hx (by decide)).2
  have h1 : a.AI 2 3 1 m = Int32.ofNat x := hrow.1 1 (by decide) (by decide)
  refine b_87_0 _ _ _ (by first | (exact hc_o (by first | assumption | (exact ⟨by decide, rfl⟩))) | assumption | (exact (hc_far (by omega)).trans (by assumption))) (by omega) (by first | rfl | assumption) ?_ ?_
  · intro z0
    exact absurd hfl z0
  · intro z0
    refine b_87_7 _ _ _ ?_ ?_
    · intro z7
      exact absurd ((i_lt (a := 100) rfl rfl (by omega) (by omega)).mp z7) (by omega)
    · intro z7
      refine b_87_13 _ _ _ (by first | (exact hc_o (by first | assumption | (exact ⟨by decide, rfl⟩))) | assumption | (exact (hc_far (by omega)).trans (by assumption))) (by omega) (by first | rfl | assumption) (by first | (exact hc_o (by first | assumption | (exact ⟨by decide, rfl⟩))) | assumption | (exact (hc_far (by omega)).trans (by assumption))) (by omega) ?_
      refine cv_has hn hN hN8 (by omega) (fun _ => ?_) (fun h => ?_)
      · refine b_87_21 _ _ _ ?_ ?_
        · intro z21
          refine b_87_26 (t48 := 268) _ _ _ _ _ _ _ _ _ _ _ _ (by first | (exact hc_o (by first | assumption | (exact ⟨by decide, rfl⟩))) | assumption | (exact (hc_far (by omega)).trans (by assumption))) (by omega) (by first | rfl | assumption) (by first | (exact hc_o (by first | assumption | (exact ⟨by decide, rfl⟩))) | assumption | (exact (hc_far (by omega)).trans (by assumption))) (by omega) (by first | rfl | assumption) (by first | (exact hc_ai (by omega) (by first | assumption | (exact (ht9 (by assumption)).2.1) | (exact (ht9 (by assumption)).2.2.1) | (exact (ht9 (by assumption)).2.2.2) | rfl) (by decide)) | assumption | (exact (hc_far (by omega)).trans (by assumption))) (Or.inl (by omega)) (by first | assumption | (exact ix_of (by omega) (by omega)) | (exact ⟨by decide, rfl, by decide⟩)) (by first | (exact hc_o (by first | assumption | (exact ⟨by decide, rfl⟩))) | assumption | (exact (hc_far (by omega)).trans (by assumption))) (by omega) (by first | rfl | assumption) (by first | (exact hc_o (by first | assumption | (exact ⟨by decide, rfl⟩))) | assumption | (exact (hc_far (by omega)).trans (by assumption))) (by omega) (by first | rfl | assumption) (by first | (exact hc_ai (by omega) (by first | assumption | (exact (ht9 (by assumption)).2.1) | (exact (ht9 (by assumption)).2.2.1) | (exact (ht9 (by assumption)).2.2.2) | rfl) (by decide)) | assumption | (exact (hc_far (by omega)).trans (by assumption))) (Or.inl (by omega)) (by first | assumption | (exact ix_of (by omega) (by omega)) | (exact ⟨by decide, rfl, by decide⟩)) (by first | (exact hc_o (by first | assumption | (exact ⟨by decide, rfl⟩))) | assumption | (exact (hc_far (by omega)).trans (by assumption))) (by omega) (by first | rfl | assumption) (by first | (exact hc_o (by first | assumption | (exact ⟨by decide, rfl⟩))) | assumption | (exact (hc_far (by omega)).trans (by assumption))) (by omega) (by first | rfl | assumption) (by first | (exact hc_ai (by omega) (by first | assumption | (exact (ht9 (by assumption)).2.1) | (exact (ht9 (by assumption)).2.2.1) | (exact (ht9 (by assumption)).2.2.2) | rfl) (by decide)) | assumption | (exact (hc_far (by omega)).trans (by assumption))) (Or.inl (by omega)) (by first | assumption | (exact ix_of (by omega) (by omega)) | (exact ⟨by decide, rfl, by decide⟩)) (by rw [h0]; decide +kernel) ?_
          refine b_87_268 _ _ _ (by first | (exact hc_o (by first | assumption | (exact ⟨by decide, rfl⟩))) | assumption | (exact (hc_far (by omega)).trans (by assumption))) (by omega) ?_
          rw [h1, of_succ]
          refine IV x (t + 1) _ false _ (by omega) (by omega) hxk (fun r1 l1 c1 => ?_)
          refine b_87_276 _ _ _ ?_
          exact K _ _ (cvo_m (F := fun v => -v) c1 (fun u _ e => by rw [e]; rfl))
        · intro z21
          first | (exact absurd z21 (by decide)) | (exact absurd (by decide) z21) | (exact absurd rfl z21) | (exact absurd z21 (of_nn (by omega))) | (exact absurd (of_np (by omega)) z21) | omega
      · exact absurd hm h
theorem cv_v13 {A B D x y z : Nat} {v : Int64} {q : Nat × Nat} (hn : 575 ≤ n) (hR : cRk a p N tb S lo hi) (hk : k ≤ 99) (ht : t + (k + 1) ≤ 101) (hm : m < N) (IV : cIV n sl f0 a p N tb S lo hi k) (IT : cIT n sl f0 a p N tb S lo hi k) (he : k ≤ e) (hcm : tb m = (13, A, B, D, v, x, y, z, q)) (hok : mz_ok tb N (k + 1) 1 m) (K : ∀ r l', cvo id (mv_v S lo hi (mv_E tb S lo hi k) (13, A, B, D, v, x, y, z, q)) false r l' → Q (.inl (some (.long r))) (n, sl, hc (cvL p a l') f0)) : mi_W (e + 4) 87 0 (mi_en 5 [.ref p, .int (Int32.ofNat m), .int (Int32.ofNat t)]) [] (n, sl, hc a f0) Q := by
  obtain ⟨hp, hS, hlo, hhi, hfl, ⟨hN, hN8⟩, hrg, hSo, hto⟩ := hR
  have hp5 := hp.1
  have hq := hS.1
  obtain ⟨-, -, had, hx, -, hy, hz⟩ := hok
  have hrow := (hrg m (Nat.zero_le _) hm).1
  rw [hcm] at had hx hy hz hrow
  unfold mz_ad at had
  dsimp only at had hx hy hz
  have hq5 := hq.1
  have hix := ix_of (w := m) (m := 800) (by omega) (by omega)
  have h0 : a.AI 2 3 0 m = 28 := hrow.1 0 (by decide) (by decide)
  have hxk : mz_ok tb N k 1 x := (hx (by decide)).2
  have h1 : a.AI 2 3 1 m = Int32.ofNat x := hrow.1 1 (by decide) (by decide)
  have hyk : mz_ok tb N k 1 y := (hy (by decide)).2
  have h3 : a.AI 2 3 3 m = Int32.ofNat y := hrow.1 3 (by decide) (by decide)
  refine b_87_0 _ _ _ (by first | (exact hc_o (by first | assumption | (exact ⟨by decide, rfl⟩))) | assumption | (exact (hc_far (by omega)).trans (by assumption))) (by omega) (by first | rfl | assumption) ?_ ?_
  · intro z0
    exact absurd hfl z0
  · intro z0
    refine b_87_7 _ _ _ ?_ ?_
    · intro z7
      exact absurd ((i_lt (a := 100) rfl rfl (by omega) (by omega)).mp z7) (by omega)
    · intro z7
      refine b_87_13 _ _ _ (by first | (exact hc_o (by first | assumption | (exact ⟨by decide, rfl⟩))) | assumption | (exact (hc_far (by omega)).trans (by assumption))) (by omega) (by first | rfl | assumption) (by first | (exact hc_o (by first | assumption | (exact ⟨by decide, rfl⟩))) | assumption | (exact (hc_far (by omega)).trans (by assumption))) (by omega) ?_
      refine cv_has hn hN hN8 (by omega) (fun _ => ?_) (fun h => ?_)
      · refine b_87_21 _ _ _ ?_ ?_
        · intro z21
          refine b_87_26 (t48 := 311) _ _ _ _ _ _ _ _ _ _ _ _ (by first | (exact hc_o (by first | assumption | (exact ⟨by decide, rfl⟩))) | assumption | (exact (hc_far (by omega)).trans (by assumption))) (by omega) (by first | rfl | assumption) (by first | (exact hc_o (by first | assumption | (exact ⟨by decide, rfl⟩))) | assumption | (exact (hc_far (by omega)).trans (by assumption))) (by omega) (by first | rfl | assumption) (by first | (exact hc_ai (by omega) (by first | assumption | (exact (ht9 (by assumption)).2.1) | (exact (ht9 (by assumption)).2.2.1) | (exact (ht9 (by assumption)).2.2.2) | rfl) (by decide)) | assumption | (exact (hc_far (by omega)).trans (by assumption))) (Or.inl (by omega)) (by first | assumption | (exact ix_of (by omega) (by omega)) | (exact ⟨by decide, rfl, by decide⟩)) (by first | (exact hc_o (by first | assumption | (exact ⟨by decide, rfl⟩))) | assumption | (exact (hc_far (by omega)).trans (by assumption))) (by omega) (by first | rfl | assumption) (by first | (exact hc_o (by first | assumption | (exact ⟨by decide, rfl⟩))) | assumption | (exact (hc_far (by omega)).trans (by assumption))) (by omega) (by first | rfl | assumption) (by first | (exact hc_ai (by omega) (by first | assumption | (exact (ht9 (by assumption)).2.1) | (exact (ht9 (by assumption)).2.2.1) | (exact (ht9 (by assumption)).2.2.2) | rfl) (by decide)) | assumption | (exact (hc_far (by omega)).trans (by assumption))) (Or.inl (by omega)) (by first | assumption | (exact ix_of (by omega) (by omega)) | (exact ⟨by decide, rfl, by decide⟩)) (by first | (exact hc_o (by first | assumption | (exact ⟨by decide, rfl⟩))) | assumption | (exact (hc_far (by omega)).trans (by assumption))) (by omega) (by first | rfl | assumption) (by first | (exact hc_o (by first | assumption | (exact ⟨by decide, rfl⟩))) | assumption | (exact (hc_far (by omega)).trans (by assumption))) (by omega) (by first | rfl | assumption) (by first | (exact hc_ai (by omega) (by first | assumption | (exact (ht9 (by assumption)).2.1) | (exact (ht9 (by assumption)).2.2.1) | (exact (ht9 (by assumption)).2.2.2) | rfl) (by decide)) | assumption | (exact (hc_far (by omega)).trans (by assumption))) (Or.inl (by omega)) (by first | assumption | (exact ix_of (by omega) (by omega)) | (exact ⟨by decide, rfl, by decide⟩)) (by rw [h0]; decide +kernel) ?_
          refine b_87_311 _ _ _ (by first | (exact hc_o (by first | assumption | (exact ⟨by decide, rfl⟩))) | assumption | (exact (hc_far (by omega)).trans (by assumption))) (by omega) ?_
          rw [h1, of_succ]
          refine IV x (t + 1) _ false _ (by omega) (by omega) hxk (fun r1 l1 c1 => ?_)
          refine b_87_320 _ _ _ (by first | (exact hc_o (by first | assumption | (exact ⟨by decide, rfl⟩))) | assumption | (exact (hc_far (by omega)).trans (by assumption))) (by omega) ?_
          rw [h3, of_succ]
          refine IV y (t + 1) _ l1 _ (by omega) (by omega) hyk (fun r2 l2 c2 => ?_)
          refine b_87_329 _ _ _ (by first | (exact hc_o (by first | assumption | (exact ⟨by decide, rfl⟩))) | assumption | (exact (hc_far (by omega)).trans (by assumption))) (by omega) ?_
          refine cv_bnd hn hp (fun r3 l3 c3 => ?_)
          refine b_87_333 _ _ _ ?_
          refine K _ _ (cvo_2 (F := fun u w => mv_two 13 u w) c1 c2 (cvo_t c3) (fun u w _ _ e1 e2 _ => ?_))
          subst e1 e2
          exact c3
        · intro z21
          first | (exact absurd z21 (by decide)) | (exact absurd (by decide) z21) | (exact absurd rfl z21) | (exact absurd z21 (of_nn (by omega))) | (exact absurd (of_np (by omega)) z21) | omega
      · exact absurd hm h
theorem cv_v14 {A B D x y z : Nat} {v : Int64} {q : Nat × Nat} (hn : 575 ≤ n) (hR : cRk a p N tb S lo hi) (hk : k ≤ 99) (ht : t + (k + 1) ≤ 101) (hm : m < N) (IV : cIV n sl f0 a p N tb S lo hi k) (IT : cIT n sl f0 a p N tb S lo hi k) (he : k ≤ e) (hcm : tb m = (14, A, B, D, v, x, y, z, q)) (hok : mz_ok tb N (k + 1) 1 m) (K : ∀ r l', cvo id (mv_v S lo hi (mv_E tb S lo hi k) (14, A, B, D, v, x, y, z, q)) false r l' → Q (.inl (some (.long r))) (n, sl, hc (cvL p a l') f0)) : mi_W (e + 4) 87 0 (mi_en 5 [.ref p, .int (Int32.ofNat m), .int (Int32.ofNat t)]) [] (n, sl, hc a f0) Q := by
  obtain ⟨hp, hS, hlo, hhi, hfl, ⟨hN, hN8⟩, hrg, hSo, hto⟩ := hR
  have hp5 := hp.1
  have hq := hS.1
  obtain ⟨-, -, had, hx, -, hy, hz⟩ := hok
  have hrow := (hrg m (Nat.zero_le _) hm).1
  rw [hcm] at had hx hy hz hrow
  unfold mz_ad at had
  dsimp only at had hx hy hz
  have hq5 := hq.1
  have hix := ix_of (w := m) (m := 800) (by omega) (by omega)
  have h0 : a.AI 2 3 0 m = 29 := hrow.1 0 (by decide) (by decide)
  have hxk : mz_ok tb N k 1 x := (hx (by decide)).2
  have h1 : a.AI 2 3 1 m = Int32.ofNat x := hrow.1 1 (by decide) (by decide)
  have hyk : mz_ok tb N k 1 y := (hy (by decide)).2
  have h3 : a.AI 2 3 3 m = Int32.ofNat y := hrow.1 3 (by decide) (by decide)
  refine b_87_0 _ _ _ (by first | (exact hc_o (by first | assumption | (exact ⟨by decide, rfl⟩))) | assumption | (exact (hc_far (by omega)).trans (by assumption))) (by omega) (by first | rfl | assumption) ?_ ?_
  · intro z0
    exact absurd hfl z0
  · intro z0
    refine b_87_7 _ _ _ ?_ ?_
    · intro z7
      exact absurd ((i_lt (a := 100) rfl rfl (by omega) (by omega)).mp z7) (by omega)
    · intro z7
      refine b_87_13 _ _ _ (by first | (exact hc_o (by first | assumption | (exact ⟨by decide, rfl⟩))) | assumption | (exact (hc_far (by omega)).trans (by assumption))) (by omega) (by first | rfl | assumption) (by first | (exact hc_o (by first | assumption | (exact ⟨by decide, rfl⟩))) | assumption | (exact (hc_far (by omega)).trans (by assumption))) (by omega) ?_
      refine cv_has hn hN hN8 (by omega) (fun _ => ?_) (fun h => ?_)
      · refine b_87_21 _ _ _ ?_ ?_
        · intro z21
          refine b_87_26 (t48 := 334) _ _ _ _ _ _ _ _ _ _ _ _ (by first | (exact hc_o (by first | assumption | (exact ⟨by decide, rfl⟩))) | assumption | (exact (hc_far (by omega)).trans (by assumption))) (by omega) (by first | rfl | assumption) (by first | (exact hc_o (by first | assumption | (exact ⟨by decide, rfl⟩))) | assumption | (exact (hc_far (by omega)).trans (by assumption))) (by omega) (by first | rfl | assumption) (by first | (exact hc_ai (by omega) (by first | assumption | (exact (ht9 (by assumption)).2.1) | (exact (ht9 (by assumption)).2.2.1) | (exact (ht9 (by assumption)).2.2.2) | rfl) (by decide)) | assumption | (exact (hc_far (by omega)).trans (by assumption))) (Or.inl (by omega)) (by first | assumption | (exact ix_of (by omega) (by omega)) | (exact ⟨by decide, rfl, by decide⟩)) (by first | (exact hc_o (by first | assumption | (exact ⟨by decide, rfl⟩))) | assumption | (exact (hc_far (by omega)).trans (by assumption))) (by omega) (by first | rfl | assumption) (by first | (exact hc_o (by first | assumption | (exact ⟨by decide, rfl⟩))) | assumption | (exact (hc_far (by omega)).trans (by assumption))) (by omega) (by first | rfl | assumption) (by first | (exact hc_ai (by omega) (by first | assumption | (exact (ht9 (by assumption)).2.1) | (exact (ht9 (by assumption)).2.2.1) | (exact (ht9 (by assumption)).2.2.2) | rfl) (by decide)) | assumption | (exact (hc_far (by omega)).trans (by assumption))) (Or.inl (by omega)) (by first | assumption | (exact ix_of (by omega) (by omega)) | (exact ⟨by decide, rfl, by decide⟩)) (by first | (exact hc_o (by first | assumption | (exact ⟨by decide, rfl⟩))) | assumption | (exact (hc_far (by omega)).trans (by assumption))) (by omega) (by first | rfl | assumption) (by first | (exact hc_o (by first | assumption | (exact ⟨by decide, rfl⟩))) | assumption | (exact (hc_far (by omega)).trans (by assumption))) (by omega) (by first | rfl | assumption) (by first | (exact hc_ai (by omega) (by first | assumption | (exact (ht9 (by assumption)).2.1) | (exact (ht9 (by assumption)).2.2.1) | (exact (ht9 (by assumption)).2.2.2) | rfl) (by decide)) | assumption | (exact (hc_far (by omega)).trans (by assumption))) (Or.inl (by omega)) (by first | assumption | (exact ix_of (by omega) (by omega)) | (exact ⟨by decide, rfl, by decide⟩)) (by rw [h0]; decide +kernel) ?_
          refine b_87_334 _ _ _ (by first | (exact hc_o (by first | assumption | (exact ⟨by decide, rfl⟩))) | assumption | (exact (hc_far (by omega)).trans (by assumption))) (by omega) ?_
          rw [h1, of_succ]
          refine IV x (t + 1) _ false _ (by omega) (by omega) hxk (fun r1 l1 c1 => ?_)
          refine b_87_343 _ _ _ (by first | (exact hc_o (by first | assumption | (exact ⟨by decide, rfl⟩))) | assumption | (exact (hc_far (by omega)).trans (by assumption))) (by omega) ?_
          rw [h3, of_succ]
          refine IV y (t + 1) _ l1 _ (by omega) (by omega) hyk (fun r2 l2 c2 => ?_)
          refine b_87_352 _ _ _ (by first | (exact hc_o (by first | assumption | (exact ⟨by decide, rfl⟩))) | assumption | (exact (hc_far (by omega)).trans (by assumption))) (by omega) ?_
          refine cv_bnd hn hp (fun r3 l3 c3 => ?_)
          refine b_87_356 _ _ _ ?_
          refine K _ _ (cvo_2 (F := fun u w => mv_two 14 u w) c1 c2 (cvo_t c3) (fun u w _ _ e1 e2 _ => ?_))
          subst e1 e2
          exact c3
        · intro z21
          first | (exact absurd z21 (by decide)) | (exact absurd (by decide) z21) | (exact absurd rfl z21) | (exact absurd z21 (of_nn (by omega))) | (exact absurd (of_np (by omega)) z21) | omega
      · exact absurd hm h
theorem cv_v15 {A B D x y z : Nat} {v : Int64} {q : Nat × Nat} (hn : 575 ≤ n) (hR : cRk a p N tb S lo hi) (hk : k ≤ 99) (ht : t + (k + 1) ≤ 101) (hm : m < N) (IV : cIV n sl f0 a p N tb S lo hi k) (IT : cIT n sl f0 a p N tb S lo hi k) (he : k ≤ e) (hcm : tb m = (15, A, B, D, v, x, y, z, q)) (hok : mz_ok tb N (k + 1) 1 m) (K : ∀ r l', cvo id (mv_v S lo hi (mv_E tb S lo hi k) (15, A, B, D, v, x, y, z, q)) false r l' → Q (.inl (some (.long r))) (n, sl, hc (cvL p a l') f0)) : mi_W (e + 4) 87 0 (mi_en 5 [.ref p, .int (Int32.ofNat m), .int (Int32.ofNat t)]) [] (n, sl, hc a f0) Q := by
  obtain ⟨hp, hS, hlo, hhi, hfl, ⟨hN, hN8⟩, hrg, hSo, hto⟩ := hR
  have hp5 := hp.1
  have hq := hS.1
  obtain ⟨-, -, had, hx, -, hy, hz⟩ := hok
  have hrow := (hrg m (Nat.zero_le _) hm).1
  rw [hcm] at had hx hy hz hrow
  unfold mz_ad at had
  dsimp only at had hx hy hz
  have hq5 := hq.1
  have hix := ix_of (w := m) (m := 800) (by omega) (by omega)
  have h0 : a.AI 2 3 0 m = 30 := hrow.1 0 (by decide) (by decide)
  have hxk : mz_ok tb N k 1 x := (hx (by decide)).2
  have h1 : a.AI 2 3 1 m = Int32.ofNat x := hrow.1 1 (by decide) (by decide)
  have hyk : mz_ok tb N k 1 y := (hy (by decide)).2
  have h3 : a.AI 2 3 3 m = Int32.ofNat y := hrow.1 3 (by decide) (by decide)
  refine b_87_0 _ _ _ (by first | (exact hc_o (by first | assumption | (exact ⟨by decide, rfl⟩))) | assumption | (exact (hc_far (by omega)).trans (by assumption))) (by omega) (by first | rfl | assumption) ?_ ?_
  · intro z0
    exact absurd hfl z0
  · intro z0
    refine b_87_7 _ _ _ ?_ ?_
    · intro z7
      exact absurd ((i_lt (a := 100) rfl rfl (by omega) (by omega)).mp z7) (by omega)
    · intro z7
      refine b_87_13 _ _ _ (by first | (exact hc_o (by first | assumption | (exact ⟨by decide, rfl⟩))) | assumption | (exact (hc_far (by omega)).trans (by assumption))) (by omega) (by first | rfl | assumption) (by first | (exact hc_o (by first | assumption | (exact ⟨by decide, rfl⟩))) | assumption | (exact (hc_far (by omega)).trans (by assumption))) (by omega) ?_
      refine cv_has hn hN hN8 (by omega) (fun _ => ?_) (fun h => ?_)
      · refine b_87_21 _ _ _ ?_ ?_
        · intro z21
          refine b_87_26 (t48 := 357) _ _ _ _ _ _ _ _ _ _ _ _ (by first | (exact hc_o (by first | assumption | (exact ⟨by decide, rfl⟩))) | assumption | (exact (hc_far (by omega)).trans (by assumption))) (by omega) (by first | rfl | assumption) (by first | (exact hc_o (by first | assumption | (exact ⟨by decide, rfl⟩))) | assumption | (exact (hc_far (by omega)).trans (by assumption))) (by omega) (by first | rfl | assumption) (by first | (exact hc_ai (by omega) (by first | assumption | (exact (ht9 (by assumption)).2.1) | (exact (ht9 (by assumption)).2.2.1) | (exact (ht9 (by assumption)).2.2.2) | rfl) (by decide)) | assumption | (exact (hc_far (by omega)).trans (by assumption))) (Or.inl (by omega)) (by first | assumption | (exact ix_of (by omega) (by omega)) | (exact ⟨by decide, rfl, by decide⟩)) (by first | (exact hc_o (by first | assumption | (exact ⟨by decide, rfl⟩))) | assumption | (exact (hc_far (by omega)).trans (by assumption))) (by omega) (by first | rfl | assumption) (by first | (exact hc_o (by first | assumption | (exact ⟨by decide, rfl⟩))) | assumption | (exact (hc_far (by omega)).trans (by assumption))) (by omega) (by first | rfl | assumption) (by first | (exact hc_ai (by omega) (by first | assumption | (exact (ht9 (by assumption)).2.1) | (exact (ht9 (by assumption)).2.2.1) | (exact (ht9 (by assumption)).2.2.2) | rfl) (by decide)) | assumption | (exact (hc_far (by omega)).trans (by assumption))) (Or.inl (by omega)) (by first | assumption | (exact ix_of (by omega) (by omega)) | (exact ⟨by decide, rfl, by decide⟩)) (by first | (exact hc_o (by first | assumption | (exact ⟨by decide, rfl⟩))) | assumption | (exact (hc_far (by omega)).trans (by assumption))) (by omega) (by first | rfl | assumption) (by first | (exact hc_o (by first | assumption | (exact ⟨by decide, rfl⟩))) | assumption | (exact (hc_far (by omega)).trans (by assumption))) (by omega) (by first | rfl | assumption) (by first | (exact hc_ai (by omega) (by first | assumption | (exact (ht9 (by assumption)).2.1) | (exact (ht9 (by assumption)).2.2.1) | (exact (ht9 (by assumption)).2.2.2) | rfl) (by decide)) | assumption | (exact (hc_far (by omega)).trans (by assumption))) (Or.inl (by omega)) (by first | assumption | (exact ix_of (by omega) (by omega)) | (exact ⟨by decide, rfl, by decide⟩)) (by rw [h0]; decide +kernel) ?_
          refine b_87_357 _ _ _ (by first | (exact hc_o (by first | assumption | (exact ⟨by decide, rfl⟩))) | assumption | (exact (hc_far (by omega)).trans (by assumption))) (by omega) ?_
          rw [h1, of_succ]
          refine IV x (t + 1) _ false _ (by omega) (by omega) hxk (fun r1 l1 c1 => ?_)
          refine b_87_366 _ _ _ (by first | (exact hc_o (by first | assumption | (exact ⟨by decide, rfl⟩))) | assumption | (exact (hc_far (by omega)).trans (by assumption))) (by omega) ?_
          rw [h3, of_succ]
          refine IV y (t + 1) _ l1 _ (by omega) (by omega) hyk (fun r2 l2 c2 => ?_)
          refine b_87_375 _ _ _ (by first | (exact hc_o (by first | assumption | (exact ⟨by decide, rfl⟩))) | assumption | (exact (hc_far (by omega)).trans (by assumption))) (by omega) ?_
          refine cv_prod hn hp (fun r3 l3 t3 c3 => ?_)
          refine b_87_378 _ _ _ ?_
          refine K _ _ (cvo_2 (F := fun u w => mv_two 15 u w) c1 c2 t3 (fun u w hu hw e1 e2 hl => ?_))
          subst e1 e2
          rw [hl]
          exact c3 hl (mv_E_in hSo hto k x _ hu) (mv_E_in hSo hto k y _ hw)
        · intro z21
          first | (exact absurd z21 (by decide)) | (exact absurd (by decide) z21) | (exact absurd rfl z21) | (exact absurd z21 (of_nn (by omega))) | (exact absurd (of_np (by omega)) z21) | omega
      · exact absurd hm h
theorem cv_v16 {A B D x y z : Nat} {v : Int64} {q : Nat × Nat} (hn : 575 ≤ n) (hR : cRk a p N tb S lo hi) (hk : k ≤ 99) (ht : t + (k + 1) ≤ 101) (hm : m < N) (IV : cIV n sl f0 a p N tb S lo hi k) (IT : cIT n sl f0 a p N tb S lo hi k) (he : k ≤ e) (hcm : tb m = (16, A, B, D, v, x, y, z, q)) (hok : mz_ok tb N (k + 1) 1 m) (K : ∀ r l', cvo id (mv_v S lo hi (mv_E tb S lo hi k) (16, A, B, D, v, x, y, z, q)) false r l' → Q (.inl (some (.long r))) (n, sl, hc (cvL p a l') f0)) : mi_W (e + 4) 87 0 (mi_en 5 [.ref p, .int (Int32.ofNat m), .int (Int32.ofNat t)]) [] (n, sl, hc a f0) Q := by
  obtain ⟨hp, hS, hlo, hhi, hfl, ⟨hN, hN8⟩, hrg, hSo, hto⟩ := hR
  have hp5 := hp.1
  have hq := hS.1
  obtain ⟨-, -, had, hx, -, hy, hz⟩ := hok
  have hrow := (hrg m (Nat.zero_le _) hm).1
  rw [hcm] at had hx hy hz hrow
  unfold mz_ad at had
  dsimp only at had hx hy hz
  have hq5 := hq.1
  have hix := ix_of (w := m) (m := 800) (by omega) (by omega)
  have h0 : a.AI 2 3 0 m = 31 := hrow.1 0 (by decide) (by decide)
  have hxk : mz_ok tb N k 1 x := (hx (by decide)).2
  have h1 : a.AI 2 3 1 m = Int32.ofNat x := hrow.1 1 (by decide) (by decide)
  have hyk : mz_ok tb N k 1 y := (hy (by decide)).2
  have h3 : a.AI 2 3 3 m = Int32.ofNat y := hrow.1 3 (by decide) (by decide)
  refine b_87_0 _ _ _ (by first | (exact hc_o (by first | assumption | (exact ⟨by decide, rfl⟩))) | assumption | (exact (hc_far (by omega)).trans (by assumption))) (by omega) (by first | rfl | assumption) ?_ ?_
  · intro z0
    exact absurd hfl z0
  · intro z0
    refine b_87_7 _ _ _ ?_ ?_
    · intro z7
      exact absurd ((i_lt (a := 100) rfl rfl (by omega) (by omega)).mp z7) (by omega)
    · intro z7
      refine b_87_13 _ _ _ (by first | (exact hc_o (by first | assumption | (exact ⟨by decide, rfl⟩))) | assumption | (exact (hc_far (by omega)).trans (by assumption))) (by omega) (by first | rfl | assumption) (by first | (exact hc_o (by first | assumption | (exact ⟨by decide, rfl⟩))) | assumption | (exact (hc_far (by omega)).trans (by assumption))) (by omega) ?_
      refine cv_has hn hN hN8 (by omega) (fun _ => ?_) (fun h => ?_)
      · refine b_87_21 _ _ _ ?_ ?_
        · intro z21
          refine b_87_26 (t48 := 379) _ _ _ _ _ _ _ _ _ _ _ _ (by first | (exact hc_o (by first | assumption | (exact ⟨by decide, rfl⟩))) | assumption | (exact (hc_far (by omega)).trans (by assumption))) (by omega) (by first | rfl | assumption) (by first | (exact hc_o (by first | assumption | (exact ⟨by decide, rfl⟩))) | assumption | (exact (hc_far (by omega)).trans (by assumption))) (by omega) (by first | rfl | assumption) (by first | (exact hc_ai (by omega) (by first | assumption | (exact (ht9 (by assumption)).2.1) | (exact (ht9 (by assumption)).2.2.1) | (exact (ht9 (by assumption)).2.2.2) | rfl) (by decide)) | assumption | (exact (hc_far (by omega)).trans (by assumption))) (Or.inl (by omega)) (by first | assumption | (exact ix_of (by omega) (by omega)) | (exact ⟨by decide, rfl, by decide⟩)) (by first | (exact hc_o (by first | assumption | (exact ⟨by decide, rfl⟩))) | assumption | (exact (hc_far (by omega)).trans (by assumption))) (by omega) (by first | rfl | assumption) (by first | (exact hc_o (by first | assumption | (exact ⟨by decide, rfl⟩))) | assumption | (exact (hc_far (by omega)).trans (by assumption))) (by omega) (by first | rfl | assumption) (by first | (exact hc_ai (by omega) (by first | assumption | (exact (ht9 (by assumption)).2.1) | (exact (ht9 (by assumption)).2.2.1) | (exact (ht9 (by assumption)).2.2.2) | rfl) (by decide)) | assumption | (exact (hc_far (by omega)).trans (by assumption))) (Or.inl (by omega)) (by first | assumption | (exact ix_of (by omega) (by omega)) | (exact ⟨by decide, rfl, by decide⟩)) (by first | (exact hc_o (by first | assumption | (exact ⟨by decide, rfl⟩))) | assumption | (exact (hc_far (by omega)).trans (by assumption))) (by omega) (by first | rfl | assumption) (by first | (exact hc_o (by first | assumption | (exact ⟨by decide, rfl⟩))) | assumption | (exact (hc_far (by omega)).trans (by assumption))) (by omega) (by first | rfl | assumption) (by first | (exact hc_ai (by omega) (by first | assumption | (exact (ht9 (by assumption)).2.1) | (exact (ht9 (by assumption)).2.2.1) | (exact (ht9 (by assumption)).2.2.2) | rfl) (by decide)) | assumption | (exact (hc_far (by omega)).trans (by assumption))) (Or.inl (by omega)) (by first | assumption | (exact ix_of (by omega) (by omega)) | (exact ⟨by decide, rfl, by decide⟩)) (by rw [h0]; decide +kernel) ?_
          refine b_87_379 _ _ _ (by first | (exact hc_o (by first | assumption | (exact ⟨by decide, rfl⟩))) | assumption | (exact (hc_far (by omega)).trans (by assumption))) (by omega) ?_
          rw [h1, of_succ]
          refine IV x (t + 1) _ false _ (by omega) (by omega) hxk (fun r1 l1 c1 => ?_)
          refine b_87_387 _ _ _ (by first | (exact hc_o (by first | assumption | (exact ⟨by decide, rfl⟩))) | assumption | (exact (hc_far (by omega)).trans (by assumption))) (by omega) ?_
          rw [h3, of_succ]
          refine IV y (t + 1) _ l1 _ (by omega) (by omega) hyk (fun r2 l2 c2 => ?_)
          refine b_87_396 _ _ _ ?_
          refine cv_quo ?_
          refine b_87_399 _ _ _ ?_
          refine K _ _ (cvo_2 (F := fun u w => mv_two 16 u w) c1 c2 (fun e => e) (fun u w hu hw e1 e2 hl => ?_))
          subst e1 e2
          rw [hl]
          exact ⟨rfl, rfl⟩
        · intro z21
          first | (exact absurd z21 (by decide)) | (exact absurd (by decide) z21) | (exact absurd rfl z21) | (exact absurd z21 (of_nn (by omega))) | (exact absurd (of_np (by omega)) z21) | omega
      · exact absurd hm h
theorem cv_v17 {A B D x y z : Nat} {v : Int64} {q : Nat × Nat} (hn : 575 ≤ n) (hR : cRk a p N tb S lo hi) (hk : k ≤ 99) (ht : t + (k + 1) ≤ 101) (hm : m < N) (IV : cIV n sl f0 a p N tb S lo hi k) (IT : cIT n sl f0 a p N tb S lo hi k) (he : k ≤ e) (hcm : tb m = (17, A, B, D, v, x, y, z, q)) (hok : mz_ok tb N (k + 1) 1 m) (K : ∀ r l', cvo id (mv_v S lo hi (mv_E tb S lo hi k) (17, A, B, D, v, x, y, z, q)) false r l' → Q (.inl (some (.long r))) (n, sl, hc (cvL p a l') f0)) : mi_W (e + 4) 87 0 (mi_en 5 [.ref p, .int (Int32.ofNat m), .int (Int32.ofNat t)]) [] (n, sl, hc a f0) Q := by
  obtain ⟨hp, hS, hlo, hhi, hfl, ⟨hN, hN8⟩, hrg, hSo, hto⟩ := hR
  have hp5 := hp.1
  have hq := hS.1
  obtain ⟨-, -, had, hx, -, hy, hz⟩ := hok
  have hrow := (hrg m (Nat.zero_le _) hm).1
  rw [hcm] at had hx hy hz hrow
  unfold mz_ad at had
  dsimp only at had hx hy hz
  have hq5 := hq.1
  have hix := ix_of (w := m) (m := 800) (by omega) (by omega)
  have h0 : a.AI 2 3 0 m = 13 := hrow.1 0 (by decide) (by decide)
  have hA : A < 8 := had.1 (by decide)
  have h4 : a.AI 2 3 4 m = Int32.ofNat A := hrow.1 4 (by decide) (by decide)
  refine b_87_0 _ _ _ (by first | (exact hc_o (by first | assumption | (exact ⟨by decide, rfl⟩))) | assumption | (exact (hc_far (by omega)).trans (by assumption))) (by omega) (by first | rfl | assumption) ?_ ?_
  · intro z0
    exact absurd hfl z0
  · intro z0
    refine b_87_7 _ _ _ ?_ ?_
    · intro z7
      exact absurd ((i_lt (a := 100) rfl rfl (by omega) (by omega)).mp z7) (by omega)
    · intro z7
      refine b_87_13 _ _ _ (by first | (exact hc_o (by first | assumption | (exact ⟨by decide, rfl⟩))) | assumption | (exact (hc_far (by omega)).trans (by assumption))) (by omega) (by first | rfl | assumption) (by first | (exact hc_o (by first | assumption | (exact ⟨by decide, rfl⟩))) | assumption | (exact (hc_far (by omega)).trans (by assumption))) (by omega) ?_
      refine cv_has hn hN hN8 (by omega) (fun _ => ?_) (fun h => ?_)
      · refine b_87_21 _ _ _ ?_ ?_
        · intro z21
          refine b_87_26 (t48 := 216) _ _ _ _ _ _ _ _ _ _ _ _ (by first | (exact hc_o (by first | assumption | (exact ⟨by decide, rfl⟩))) | assumption | (exact (hc_far (by omega)).trans (by assumption))) (by omega) (by first | rfl | assumption) (by first | (exact hc_o (by first | assumption | (exact ⟨by decide, rfl⟩))) | assumption | (exact (hc_far (by omega)).trans (by assumption))) (by omega) (by first | rfl | assumption) (by first | (exact hc_ai (by omega) (by first | assumption | (exact (ht9 (by assumption)).2.1) | (exact (ht9 (by assumption)).2.2.1) | (exact (ht9 (by assumption)).2.2.2) | rfl) (by decide)) | assumption | (exact (hc_far (by omega)).trans (by assumption))) (Or.inl (by omega)) (by first | assumption | (exact ix_of (by omega) (by omega)) | (exact ⟨by decide, rfl, by decide⟩)) (by first | (exact hc_o (by first | assumption | (exact ⟨by decide, rfl⟩))) | assumption | (exact (hc_far (by omega)).trans (by assumption))) (by omega) (by first | rfl | assumption) (by first | (exact hc_o (by first | assumption | (exact ⟨by decide, rfl⟩))) | assumption | (exact (hc_far (by omega)).trans (by assumption))) (by omega) (by first | rfl | assumption) (by first | (exact hc_ai (by omega) (by first | assumption | (exact (ht9 (by assumption)).2.1) | (exact (ht9 (by assumption)).2.2.1) | (exact (ht9 (by assumption)).2.2.2) | rfl) (by decide)) | assumption | (exact (hc_far (by omega)).trans (by assumption))) (Or.inl (by omega)) (by first | assumption | (exact ix_of (by omega) (by omega)) | (exact ⟨by decide, rfl, by decide⟩)) (by first | (exact hc_o (by first | assumption | (exact ⟨by decide, rfl⟩))) | assumption | (exact (hc_far (by omega)).trans (by assumption))) (by omega) (by first | rfl | assumption) (by first | (exact hc_o (by first | assumption | (exact ⟨by decide, rfl⟩))) | assumption | (exact (hc_far (by omega)).trans (by assumption))) (by omega) (by first | rfl | assumption) (by first | (exact hc_ai (by omega) (by first | assumption | (exact (ht9 (by assumption)).2.1) | (exact (ht9 (by assumption)).2.2.1) | (exact (ht9 (by assumption)).2.2.2) | rfl) (by decide)) | assumption | (exact (hc_far (by omega)).trans (by assumption))) (Or.inl (by omega)) (by first | assumption | (exact ix_of (by omega) (by omega)) | (exact ⟨by decide, rfl, by decide⟩)) (by rw [h0]; decide +kernel) ?_
          refine b_87_216 _ _ _ _ _ _ (by first | (exact hc_o (by first | assumption | (exact ⟨by decide, rfl⟩))) | assumption | (exact (hc_far (by omega)).trans (by assumption))) (by omega) (by first | rfl | assumption) (by first | (exact hc_o (by first | assumption | (exact ⟨by decide, rfl⟩))) | assumption | (exact (hc_far (by omega)).trans (by assumption))) (by omega) (by first | rfl | assumption) (by first | (exact hc_o (by first | assumption | (exact ⟨by decide, rfl⟩))) | assumption | (exact (hc_far (by omega)).trans (by assumption))) (by omega) (by first | rfl | assumption) (by first | (exact hc_ai (by omega) (by first | assumption | (exact (ht9 (by assumption)).2.1) | (exact (ht9 (by assumption)).2.2.1) | (exact (ht9 (by assumption)).2.2.2) | rfl) (by decide)) | assumption | (exact (hc_far (by omega)).trans (by assumption))) (Or.inl (by omega)) (by first | assumption | (exact ix_of (by omega) (by omega)) | (exact ⟨by decide, rfl, by decide⟩)) (by first | (exact hc_o (by first | assumption | (exact ⟨by decide, rfl⟩))) | assumption | (exact (hc_far (by omega)).trans (by assumption))) (by omega) ?_
          rw [h4]
          refine cv_ch hn hq hA ?_
          refine b_87_232 _ _ _ ?_
          exact K _ false ⟨rfl, hS.2.2.2.2.1 _ hA⟩
        · intro z21
          first | (exact absurd z21 (by decide)) | (exact absurd (by decide) z21) | (exact absurd rfl z21) | (exact absurd z21 (of_nn (by omega))) | (exact absurd (of_np (by omega)) z21) | omega
      · exact absurd hm h
theorem cv_v18 {A B D x y z : Nat} {v : Int64} {q : Nat × Nat} (hn : 575 ≤ n) (hR : cRk a p N tb S lo hi) (hk : k ≤ 99) (ht : t + (k + 1) ≤ 101) (hm : m < N) (IV : cIV n sl f0 a p N tb S lo hi k) (IT : cIT n sl f0 a p N tb S lo hi k) (he : k ≤ e) (hcm : tb m = (18, A, B, D, v, x, y, z, q)) (hok : mz_ok tb N (k + 1) 1 m) (K : ∀ r l', cvo id (mv_v S lo hi (mv_E tb S lo hi k) (18, A, B, D, v, x, y, z, q)) false r l' → Q (.inl (some (.long r))) (n, sl, hc (cvL p a l') f0)) : mi_W (e + 4) 87 0 (mi_en 5 [.ref p, .int (Int32.ofNat m), .int (Int32.ofNat t)]) [] (n, sl, hc a f0) Q := by
  obtain ⟨hp, hS, hlo, hhi, hfl, ⟨hN, hN8⟩, hrg, hSo, hto⟩ := hR
  have hp5 := hp.1
  have hq := hS.1
  obtain ⟨-, -, had, hx, -, hy, hz⟩ := hok
  have hrow := (hrg m (Nat.zero_le _) hm).1
  rw [hcm] at had hx hy hz hrow
  unfold mz_ad at had
  dsimp only at had hx hy hz
  have hq5 := hq.1
  have hix := ix_of (w := m) (m := 800) (by omega) (by omega)
  have h0 : a.AI 2 3 0 m = 14 := hrow.1 0 (by decide) (by decide)
  have hA : A < 8 := had.1 (by decide)
  have h4 : a.AI 2 3 4 m = Int32.ofNat A := hrow.1 4 (by decide) (by decide)
  refine b_87_0 _ _ _ (by first | (exact hc_o (by first | assumption | (exact ⟨by decide, rfl⟩))) | assumption | (exact (hc_far (by omega)).trans (by assumption))) (by omega) (by first | rfl | assumption) ?_ ?_
  · intro z0
    exact absurd hfl z0
  · intro z0
    refine b_87_7 _ _ _ ?_ ?_
    · intro z7
      exact absurd ((i_lt (a := 100) rfl rfl (by omega) (by omega)).mp z7) (by omega)
    · intro z7
      refine b_87_13 _ _ _ (by first | (exact hc_o (by first | assumption | (exact ⟨by decide, rfl⟩))) | assumption | (exact (hc_far (by omega)).trans (by assumption))) (by omega) (by first | rfl | assumption) (by first | (exact hc_o (by first | assumption | (exact ⟨by decide, rfl⟩))) | assumption | (exact (hc_far (by omega)).trans (by assumption))) (by omega) ?_
      refine cv_has hn hN hN8 (by omega) (fun _ => ?_) (fun h => ?_)
      · refine b_87_21 _ _ _ ?_ ?_
        · intro z21
          refine b_87_26 (t48 := 233) _ _ _ _ _ _ _ _ _ _ _ _ (by first | (exact hc_o (by first | assumption | (exact ⟨by decide, rfl⟩))) | assumption | (exact (hc_far (by omega)).trans (by assumption))) (by omega) (by first | rfl | assumption) (by first | (exact hc_o (by first | assumption | (exact ⟨by decide, rfl⟩))) | assumption | (exact (hc_far (by omega)).trans (by assumption))) (by omega) (by first | rfl | assumption) (by first | (exact hc_ai (by omega) (by first | assumption | (exact (ht9 (by assumption)).2.1) | (exact (ht9 (by assumption)).2.2.1) | (exact (ht9 (by assumption)).2.2.2) | rfl) (by decide)) | assumption | (exact (hc_far (by omega)).trans (by assumption))) (Or.inl (by omega)) (by first | assumption | (exact ix_of (by omega) (by omega)) | (exact ⟨by decide, rfl, by decide⟩)) (by first | (exact hc_o (by first | assumption | (exact ⟨by decide, rfl⟩))) | assumption | (exact (hc_far (by omega)).trans (by assumption))) (by omega) (by first | rfl | assumption) (by first | (exact hc_o (by first | assumption | (exact ⟨by decide, rfl⟩))) | assumption | (exact (hc_far (by omega)).trans (by assumption))) (by omega) (by first | rfl | assumption) (by first | (exact hc_ai (by omega) (by first | assumption | (exact (ht9 (by assumption)).2.1) | (exact (ht9 (by assumption)).2.2.1) | (exact (ht9 (by assumption)).2.2.2) | rfl) (by decide)) | assumption | (exact (hc_far (by omega)).trans (by assumption))) (Or.inl (by omega)) (by first | assumption | (exact ix_of (by omega) (by omega)) | (exact ⟨by decide, rfl, by decide⟩)) (by first | (exact hc_o (by first | assumption | (exact ⟨by decide, rfl⟩))) | assumption | (exact (hc_far (by omega)).trans (by assumption))) (by omega) (by first | rfl | assumption) (by first | (exact hc_o (by first | assumption | (exact ⟨by decide, rfl⟩))) | assumption | (exact (hc_far (by omega)).trans (by assumption))) (by omega) (by first | rfl | assumption) (by first | (exact hc_ai (by omega) (by first | assumption | (exact (ht9 (by assumption)).2.1) | (exact (ht9 (by assumption)).2.2.1) | (exact (ht9 (by assumption)).2.2.2) | rfl) (by decide)) | assumption | (exact (hc_far (by omega)).trans (by assumption))) (Or.inl (by omega)) (by first | assumption | (exact ix_of (by omega) (by omega)) | (exact ⟨by decide, rfl, by decide⟩)) (by rw [h0]; decide +kernel) ?_
          refine b_87_233 _ _ _ _ _ _ (by first | (exact hc_o (by first | assumption | (exact ⟨by decide, rfl⟩))) | assumption | (exact (hc_far (by omega)).trans (by assumption))) (by omega) (by first | rfl | assumption) (by first | (exact hc_o (by first | assumption | (exact ⟨by decide, rfl⟩))) | assumption | (exact (hc_far (by omega)).trans (by assumption))) (by omega) (by first | rfl | assumption) (by first | (exact hc_o (by first | assumption | (exact ⟨by decide, rfl⟩))) | assumption | (exact (hc_far (by omega)).trans (by assumption))) (by omega) (by first | rfl | assumption) (by first | (exact hc_ai (by omega) (by first | assumption | (exact (ht9 (by assumption)).2.1) | (exact (ht9 (by assumption)).2.2.1) | (exact (ht9 (by assumption)).2.2.2) | rfl) (by decide)) | assumption | (exact (hc_far (by omega)).trans (by assumption))) (Or.inl (by omega)) (by first | assumption | (exact ix_of (by omega) (by omega)) | (exact ⟨by decide, rfl, by decide⟩)) (by first | (exact hc_o (by first | assumption | (exact ⟨by decide, rfl⟩))) | assumption | (exact (hc_far (by omega)).trans (by assumption))) (by omega) ?_
          rw [h4]
          refine cv_us hn hq hA ?_
          refine b_87_249 _ _ _ ?_
          exact K _ false ⟨rfl, hS.2.2.2.2.2.1 _ hA⟩
        · intro z21
          first | (exact absurd z21 (by decide)) | (exact absurd (by decide) z21) | (exact absurd rfl z21) | (exact absurd z21 (of_nn (by omega))) | (exact absurd (of_np (by omega)) z21) | omega
      · exact absurd hm h
theorem cv_v19 {A B D x y z : Nat} {v : Int64} {q : Nat × Nat} (hn : 575 ≤ n) (hR : cRk a p N tb S lo hi) (hk : k ≤ 99) (ht : t + (k + 1) ≤ 101) (hm : m < N) (IV : cIV n sl f0 a p N tb S lo hi k) (IT : cIT n sl f0 a p N tb S lo hi k) (he : k ≤ e) (hcm : tb m = (19, A, B, D, v, x, y, z, q)) (hok : mz_ok tb N (k + 1) 1 m) (K : ∀ r l', cvo id (mv_v S lo hi (mv_E tb S lo hi k) (19, A, B, D, v, x, y, z, q)) false r l' → Q (.inl (some (.long r))) (n, sl, hc (cvL p a l') f0)) : mi_W (e + 4) 87 0 (mi_en 5 [.ref p, .int (Int32.ofNat m), .int (Int32.ofNat t)]) [] (n, sl, hc a f0) Q := by
  obtain ⟨hp, hS, hlo, hhi, hfl, ⟨hN, hN8⟩, hrg, hSo, hto⟩ := hR
  have hp5 := hp.1
  have hq := hS.1
  obtain ⟨-, -, had, hx, -, hy, hz⟩ := hok
  have hrow := (hrg m (Nat.zero_le _) hm).1
  rw [hcm] at had hx hy hz hrow
  unfold mz_ad at had
  dsimp only at had hx hy hz
  have hq5 := hq.1
  have hix := ix_of (w := m) (m := 800) (by omega) (by omega)
  have h0 : a.AI 2 3 0 m = 15 := hrow.1 0 (by decide) (by decide)
  refine b_87_0 _ _ _ (by first | (exact hc_o (by first | assumption | (exact ⟨by decide, rfl⟩))) | assumption | (exact (hc_far (by omega)).trans (by assumption))) (by omega) (by first | rfl | assumption) ?_ ?_
  · intro z0
    exact absurd hfl z0
  · intro z0
    refine b_87_7 _ _ _ ?_ ?_
    · intro z7
      exact absurd ((i_lt (a := 100) rfl rfl (by omega) (by omega)).mp z7) (by omega)
    · intro z7
      refine b_87_13 _ _ _ (by first | (exact hc_o (by first | assumption | (exact ⟨by decide, rfl⟩))) | assumption | (exact (hc_far (by omega)).trans (by assumption))) (by omega) (by first | rfl | assumption) (by first | (exact hc_o (by first | assumption | (exact ⟨by decide, rfl⟩))) | assumption | (exact (hc_far (by omega)).trans (by assumption))) (by omega) ?_
      refine cv_has hn hN hN8 (by omega) (fun _ => ?_) (fun h => ?_)
      · refine b_87_21 _ _ _ ?_ ?_
        · intro z21
          refine b_87_26 (t48 := 250) _ _ _ _ _ _ _ _ _ _ _ _ (by first | (exact hc_o (by first | assumption | (exact ⟨by decide, rfl⟩))) | assumption | (exact (hc_far (by omega)).trans (by assumption))) (by omega) (by first | rfl | assumption) (by first | (exact hc_o (by first | assumption | (exact ⟨by decide, rfl⟩))) | assumption | (exact (hc_far (by omega)).trans (by assumption))) (by omega) (by first | rfl | assumption) (by first | (exact hc_ai (by omega) (by first | assumption | (exact (ht9 (by assumption)).2.1) | (exact (ht9 (by assumption)).2.2.1) | (exact (ht9 (by assumption)).2.2.2) | rfl) (by decide)) | assumption | (exact (hc_far (by omega)).trans (by assumption))) (Or.inl (by omega)) (by first | assumption | (exact ix_of (by omega) (by omega)) | (exact ⟨by decide, rfl, by decide⟩)) (by first | (exact hc_o (by first | assumption | (exact ⟨by decide, rfl⟩))) | assumption | (exact (hc_far (by omega)).trans (by assumption))) (by omega) (by first | rfl | assumption) (by first | (exact hc_o (by first | assumption | (exact ⟨by decide, rfl⟩))) | assumption | (exact (hc_far (by omega)).trans (by assumption))) (by omega) (by first | rfl | assumption) (by first | (exact hc_ai (by omega) (by first | assumption | (exact (ht9 (by assumption)).2.1) | (exact (ht9 (by assumption)).2.2.1) | (exact (ht9 (by assumption)).2.2.2) | rfl) (by decide)) | assumption | (exact (hc_far (by omega)).trans (by assumption))) (Or.inl (by omega)) (by first | assumption | (exact ix_of (by omega) (by omega)) | (exact ⟨by decide, rfl, by decide⟩)) (by first | (exact hc_o (by first | assumption | (exact ⟨by decide, rfl⟩))) | assumption | (exact (hc_far (by omega)).trans (by assumption))) (by omega) (by first | rfl | assumption) (by first | (exact hc_o (by first | assumption | (exact ⟨by decide, rfl⟩))) | assumption | (exact (hc_far (by omega)).trans (by assumption))) (by omega) (by first | rfl | assumption) (by first | (exact hc_ai (by omega) (by first | assumption | (exact (ht9 (by assumption)).2.1) | (exact (ht9 (by assumption)).2.2.1) | (exact (ht9 (by assumption)).2.2.2) | rfl) (by decide)) | assumption | (exact (hc_far (by omega)).trans (by assumption))) (Or.inl (by omega)) (by first | assumption | (exact ix_of (by omega) (by omega)) | (exact ⟨by decide, rfl, by decide⟩)) (by rw [h0]; decide +kernel) ?_
          refine b_87_250 _ _ _ (by first | (exact hc_o (by first | assumption | (exact ⟨by decide, rfl⟩))) | assumption | (exact (hc_far (by omega)).trans (by assumption))) (by omega) (by first | rfl | assumption) (by first | (exact hc_o (by first | assumption | (exact ⟨by decide, rfl⟩))) | assumption | (exact (hc_far (by omega)).trans (by assumption))) (by omega) ?_
          rw [hlo]
          refine cv_bnd (l := false) (a := a) hn hp (fun r1 l1 c1 => ?_)
          refine b_87_258 _ _ _ ?_
          exact K _ _ c1
        · intro z21
          first | (exact absurd z21 (by decide)) | (exact absurd (by decide) z21) | (exact absurd rfl z21) | (exact absurd z21 (of_nn (by omega))) | (exact absurd (of_np (by omega)) z21) | omega
      · exact absurd hm h
theorem cv_v20 {A B D x y z : Nat} {v : Int64} {q : Nat × Nat} (hn : 575 ≤ n) (hR : cRk a p N tb S lo hi) (hk : k ≤ 99) (ht : t + (k + 1) ≤ 101) (hm : m < N) (IV : cIV n sl f0 a p N tb S lo hi k) (IT : cIT n sl f0 a p N tb S lo hi k) (he : k ≤ e) (hcm : tb m = (20, A, B, D, v, x, y, z, q)) (hok : mz_ok tb N (k + 1) 1 m) (K : ∀ r l', cvo id (mv_v S lo hi (mv_E tb S lo hi k) (20, A, B, D, v, x, y, z, q)) false r l' → Q (.inl (some (.long r))) (n, sl, hc (cvL p a l') f0)) : mi_W (e + 4) 87 0 (mi_en 5 [.ref p, .int (Int32.ofNat m), .int (Int32.ofNat t)]) [] (n, sl, hc a f0) Q := by
  obtain ⟨hp, hS, hlo, hhi, hfl, ⟨hN, hN8⟩, hrg, hSo, hto⟩ := hR
  have hp5 := hp.1
  have hq := hS.1
  obtain ⟨-, -, had, hx, -, hy, hz⟩ := hok
  have hrow := (hrg m (Nat.zero_le _) hm).1
  rw [hcm] at had hx hy hz hrow
  unfold mz_ad at had
  dsimp only at had hx hy hz
  have hq5 := hq.1
  have hix := ix_of (w := m) (m := 800) (by omega) (by omega)
  have h0 : a.AI 2 3 0 m = 16 := hrow.1 0 (by decide) (by decide)
  refine b_87_0 _ _ _ (by first | (exact hc_o (by first | assumption | (exact ⟨by decide, rfl⟩))) | assumption | (exact (hc_far (by omega)).trans (by assumption))) (by omega) (by first | rfl | assumption) ?_ ?_
  · intro z0
    exact absurd hfl z0
  · intro z0
    refine b_87_7 _ _ _ ?_ ?_
    · intro z7
      exact absurd ((i_lt (a := 100) rfl rfl (by omega) (by omega)).mp z7) (by omega)
    · intro z7
      refine b_87_13 _ _ _ (by first | (exact hc_o (by first | assumption | (exact ⟨by decide, rfl⟩))) | assumption | (exact (hc_far (by omega)).trans (by assumption))) (by omega) (by first | rfl | assumption) (by first | (exact hc_o (by first | assumption | (exact ⟨by decide, rfl⟩))) | assumption | (exact (hc_far (by omega)).trans (by assumption))) (by omega) ?_
      refine cv_has hn hN hN8 (by omega) (fun _ => ?_) (fun h => ?_)
      · refine b_87_21 _ _ _ ?_ ?_
        · intro z21
          refine b_87_26 (t48 := 259) _ _ _ _ _ _ _ _ _ _ _ _ (by first | (exact hc_o (by first | assumption | (exact ⟨by decide, rfl⟩))) | assumption | (exact (hc_far (by omega)).trans (by assumption))) (by omega) (by first | rfl | assumption) (by first | (exact hc_o (by first | assumption | (exact ⟨by decide, rfl⟩))) | assumption | (exact (hc_far (by omega)).trans (by assumption))) (by omega) (by first | rfl | assumption) (by first | (exact hc_ai (by omega) (by first | assumption | (exact (ht9 (by assumption)).2.1) | (exact (ht9 (by assumption)).2.2.1) | (exact (ht9 (by assumption)).2.2.2) | rfl) (by decide)) | assumption | (exact (hc_far (by omega)).trans (by assumption))) (Or.inl (by omega)) (by first | assumption | (exact ix_of (by omega) (by omega)) | (exact ⟨by decide, rfl, by decide⟩)) (by first | (exact hc_o (by first | assumption | (exact ⟨by decide, rfl⟩))) | assumption | (exact (hc_far (by omega)).trans (by assumption))) (by omega) (by first | rfl | assumption) (by first | (exact hc_o (by first | assumption | (exact ⟨by decide, rfl⟩))) | assumption | (exact (hc_far (by omega)).trans (by assumption))) (by omega) (by first | rfl | assumption) (by first | (exact hc_ai (by omega) (by first | assumption | (exact (ht9 (by assumption)).2.1) | (exact (ht9 (by assumption)).2.2.1) | (exact (ht9 (by assumption)).2.2.2) | rfl) (by decide)) | assumption | (exact (hc_far (by omega)).trans (by assumption))) (Or.inl (by omega)) (by first | assumption | (exact ix_of (by omega) (by omega)) | (exact ⟨by decide, rfl, by decide⟩)) (by first | (exact hc_o (by first | assumption | (exact ⟨by decide, rfl⟩))) | assumption | (exact (hc_far (by omega)).trans (by assumption))) (by omega) (by first | rfl | assumption) (by first | (exact hc_o (by first | assumption | (exact ⟨by decide, rfl⟩))) | assumption | (exact (hc_far (by omega)).trans (by assumption))) (by omega) (by first | rfl | assumption) (by first | (exact hc_ai (by omega) (by first | assumption | (exact (ht9 (by assumption)).2.1) | (exact (ht9 (by assumption)).2.2.1) | (exact (ht9 (by assumption)).2.2.2) | rfl) (by decide)) | assumption | (exact (hc_far (by omega)).trans (by assumption))) (Or.inl (by omega)) (by first | assumption | (exact ix_of (by omega) (by omega)) | (exact ⟨by decide, rfl, by decide⟩)) (by rw [h0]; decide +kernel) ?_
          refine b_87_259 _ _ _ (by first | (exact hc_o (by first | assumption | (exact ⟨by decide, rfl⟩))) | assumption | (exact (hc_far (by omega)).trans (by assumption))) (by omega) (by first | rfl | assumption) (by first | (exact hc_o (by first | assumption | (exact ⟨by decide, rfl⟩))) | assumption | (exact (hc_far (by omega)).trans (by assumption))) (by omega) ?_
          rw [hhi]
          refine cv_bnd (l := false) (a := a) hn hp (fun r1 l1 c1 => ?_)
          refine b_87_267 _ _ _ ?_
          exact K _ _ c1
        · intro z21
          first | (exact absurd z21 (by decide)) | (exact absurd (by decide) z21) | (exact absurd rfl z21) | (exact absurd z21 (of_nn (by omega))) | (exact absurd (of_np (by omega)) z21) | omega
      · exact absurd hm h
theorem cv_v21 {A B D x y z : Nat} {v : Int64} {q : Nat × Nat} (hn : 575 ≤ n) (hR : cRk a p N tb S lo hi) (hk : k ≤ 99) (ht : t + (k + 1) ≤ 101) (hm : m < N) (IV : cIV n sl f0 a p N tb S lo hi k) (IT : cIT n sl f0 a p N tb S lo hi k) (he : k ≤ e) (hcm : tb m = (21, A, B, D, v, x, y, z, q)) (hok : mz_ok tb N (k + 1) 1 m) (K : ∀ r l', cvo id (mv_v S lo hi (mv_E tb S lo hi k) (21, A, B, D, v, x, y, z, q)) false r l' → Q (.inl (some (.long r))) (n, sl, hc (cvL p a l') f0)) : mi_W (e + 4) 87 0 (mi_en 5 [.ref p, .int (Int32.ofNat m), .int (Int32.ofNat t)]) [] (n, sl, hc a f0) Q := by
  obtain ⟨hp, hS, hlo, hhi, hfl, ⟨hN, hN8⟩, hrg, hSo, hto⟩ := hR
  have hp5 := hp.1
  have hq := hS.1
  obtain ⟨-, -, had, hx, -, hy, hz⟩ := hok
  have hrow := (hrg m (Nat.zero_le _) hm).1
  rw [hcm] at had hx hy hz hrow
  unfold mz_ad at had
  dsimp only at had hx hy hz
  have hq5 := hq.1
  have hix := ix_of (w := m) (m := 800) (by omega) (by omega)
  have h0 : a.AI 2 3 0 m = 17 := hrow.1 0 (by decide) (by decide)
  have hxk : mz_ok tb N k 2 x := (hx (by decide)).2
  have h1 : a.AI 2 3 1 m = Int32.ofNat x := hrow.1 1 (by decide) (by decide)
  have hyk : mz_ok tb N k 1 y := (hy (by decide)).2
  have h2 : a.AI 2 3 2 m = Int32.ofNat y := hrow.1 2 (by decide) (by decide)
  have hzk : mz_ok tb N k 1 z := (hz (by decide)).2
  have h3 : a.AI 2 3 3 m = Int32.ofNat z := hrow.1 3 (by decide) (by decide)
  refine b_87_0 _ _ _ (by first | (exact hc_o (by first | assumption | (exact ⟨by decide, rfl⟩))) | assumption | (exact (hc_far (by omega)).trans (by assumption))) (by omega) (by first | rfl | assumption) ?_ ?_
  · intro z0
    exact absurd hfl z0
  · intro z0
    refine b_87_7 _ _ _ ?_ ?_
    · intro z7
      exact absurd ((i_lt (a := 100) rfl rfl (by omega) (by omega)).mp z7) (by omega)
    · intro z7
      refine b_87_13 _ _ _ (by first | (exact hc_o (by first | assumption | (exact ⟨by decide, rfl⟩))) | assumption | (exact (hc_far (by omega)).trans (by assumption))) (by omega) (by first | rfl | assumption) (by first | (exact hc_o (by first | assumption | (exact ⟨by decide, rfl⟩))) | assumption | (exact (hc_far (by omega)).trans (by assumption))) (by omega) ?_
      refine cv_has hn hN hN8 (by omega) (fun _ => ?_) (fun h => ?_)
      · refine b_87_21 _ _ _ ?_ ?_
        · intro z21
          refine b_87_26 (t48 := 278) _ _ _ _ _ _ _ _ _ _ _ _ (by first | (exact hc_o (by first | assumption | (exact ⟨by decide, rfl⟩))) | assumption | (exact (hc_far (by omega)).trans (by assumption))) (by omega) (by first | rfl | assumption) (by first | (exact hc_o (by first | assumption | (exact ⟨by decide, rfl⟩))) | assumption | (exact (hc_far (by omega)).trans (by assumption))) (by omega) (by first | rfl | assumption) (by first | (exact hc_ai (by omega) (by first | assumption | (exact (ht9 (by assumption)).2.1) | (exact (ht9 (by assumption)).2.2.1) | (exact (ht9 (by assumption)).2.2.2) | rfl) (by decide)) | assumption | (exact (hc_far (by omega)).trans (by assumption))) (Or.inl (by omega)) (by first | assumption | (exact ix_of (by omega) (by omega)) | (exact ⟨by decide, rfl, by decide⟩)) (by first | (exact hc_o (by first | assumption | (exact ⟨by decide, rfl⟩))) | assumption | (exact (hc_far (by omega)).trans (by assumption))) (by omega) (by first | rfl | assumption) (by first | (exact hc_o (by first | assumption | (exact ⟨by decide, rfl⟩))) | assumption | (exact (hc_far (by omega)).trans (by assumption))) (by omega) (by first | rfl | assumption) (by first | (exact hc_ai (by omega) (by first | assumption | (exact (ht9 (by assumption)).2.1) | (exact (ht9 (by assumption)).2.2.1) | (exact (ht9 (by assumption)).2.2.2) | rfl) (by decide)) | assumption | (exact (hc_far (by omega)).trans (by assumption))) (Or.inl (by omega)) (by first | assumption | (exact ix_of (by omega) (by omega)) | (exact ⟨by decide, rfl, by decide⟩)) (by first | (exact hc_o (by first | assumption | (exact ⟨by decide, rfl⟩))) | assumption | (exact (hc_far (by omega)).trans (by assumption))) (by omega) (by first | rfl | assumption) (by first | (exact hc_o (by first | assumption | (exact ⟨by decide, rfl⟩))) | assumption | (exact (hc_far (by omega)).trans (by assumption))) (by omega) (by first | rfl | assumption) (by first | (exact hc_ai (by omega) (by first | assumption | (exact (ht9 (by assumption)).2.1) | (exact (ht9 (by assumption)).2.2.1) | (exact (ht9 (by assumption)).2.2.2) | rfl) (by decide)) | assumption | (exact (hc_far (by omega)).trans (by assumption))) (Or.inl (by omega)) (by first | assumption | (exact ix_of (by omega) (by omega)) | (exact ⟨by decide, rfl, by decide⟩)) (by rw [h0]; decide +kernel) ?_
          refine b_87_278 _ _ _ (by first | (exact hc_o (by first | assumption | (exact ⟨by decide, rfl⟩))) | assumption | (exact (hc_far (by omega)).trans (by assumption))) (by omega) ?_
          rw [h1, of_succ]
          refine IT x (t + 1) _ false _ (by omega) (by omega) hxk (fun r1 l1 _ c1 => ?_)
          refine b_87_287 _ _ _ ?_ ?_
          · intro z287
            obtain ⟨j, hj, hjk⟩ : ∃ j, j = z ∧ mz_ok tb N k 1 j := ⟨z, rfl, hzk⟩
            have hjv : a.AI 2 3 3 m = Int32.ofNat j := by rw [hj]; exact h3
            refine b_87_302 _ _ _ ?_
            refine b_87_304 _ _ _ (by first | (exact hc_o (by first | assumption | (exact ⟨by decide, rfl⟩))) | assumption | (exact (hc_far (by omega)).trans (by assumption))) (by omega) ?_
            rw [hjv, of_succ]
            refine IV j (t + 1) _ l1 _ (by omega) (by omega) hjk (fun r2 l2 c2 => ?_)
            refine b_87_310 _ _ _ ?_
            refine K _ _ (cvo_1 (F := fun b => (mv_E tb S lo hi k).1 (if b = true then y else z)) c1 (cvo_t c2) (fun b _ hr _ => ?_))
            subst hr hj
            cases b
            · first | exact c2 | exact absurd rfl z287
            · first | exact c2 | exact absurd z287 (by decide)
          · intro z287
            obtain ⟨j, hj, hjk⟩ : ∃ j, j = y ∧ mz_ok tb N k 1 j := ⟨y, rfl, hyk⟩
            have hjv : (cvL p a l1).AI 2 3 2 m = Int32.ofNat j := by rw [hj, cvL_AI]; exact h2
            refine b_87_290 _ _ _ _ _ _ (by first | (exact hc_o (by first | assumption | (exact ⟨by decide, rfl⟩))) | assumption | (exact (hc_far (by omega)).trans (by assumption))) (by omega) (by first | rfl | assumption) (by first | (exact hc_o (by first | assumption | (exact ⟨by decide, rfl⟩))) | assumption | (exact (hc_far (by omega)).trans (by assumption))) (by omega) (by first | rfl | assumption) (by first | (exact hc_ai (by omega) (by first | assumption | (exact (ht9 (by assumption)).2.1) | (exact (ht9 (by assumption)).2.2.1) | (exact (ht9 (by assumption)).2.2.2) | rfl) (by decide)) | assumption | (exact (hc_far (by omega)).trans (by assumption))) (Or.inl (by omega)) (by first | assumption | (exact ix_of (by omega) (by omega)) | (exact ⟨by decide, rfl, by decide⟩)) ?_
            refine b_87_304 _ _ _ (by first | (exact hc_o (by first | assumption | (exact ⟨by decide, rfl⟩))) | assumption | (exact (hc_far (by omega)).trans (by assumption))) (by omega) ?_
            rw [hjv, of_succ]
            refine IV j (t + 1) _ l1 _ (by omega) (by omega) hjk (fun r2 l2 c2 => ?_)
            refine b_87_310 _ _ _ ?_
            refine K _ _ (cvo_1 (F := fun b => (mv_E tb S lo hi k).1 (if b = true then y else z)) c1 (cvo_t c2) (fun b _ hr _ => ?_))
            subst hr hj
            cases b
            · first | exact c2 | exact absurd rfl z287
            · first | exact c2 | exact absurd z287 (by decide)
        · intro z21
          first | (exact absurd z21 (by decide)) | (exact absurd (by decide) z21) | (exact absurd rfl z21) | (exact absurd z21 (of_nn (by omega))) | (exact absurd (of_np (by omega)) z21) | omega
      · exact absurd hm h
theorem cv_t22 {A B D x y z : Nat} {v : Int64} {q : Nat × Nat} (hn : 575 ≤ n) (hR : cRk a p N tb S lo hi) (hk : k ≤ 99) (ht : t + (k + 1) ≤ 101) (hm : m < N) (IV : cIV n sl f0 a p N tb S lo hi k) (IT : cIT n sl f0 a p N tb S lo hi k) (he : k ≤ e) (hcm : tb m = (22, A, B, D, v, x, y, z, q)) (hok : mz_ok tb N (k + 1) 2 m) (K : ∀ r l', (r = 0 ∨ r = 1) → cvo cvt (mv_t S (mv_E tb S lo hi k) (22, A, B, D, v, x, y, z, q)) false r l' → Q (.inl (some (.int r))) (n, sl, hc (cvL p a l') f0)) : mi_W (e + 4) 92 0 (mi_en 6 [.ref p, .int (Int32.ofNat m), .int (Int32.ofNat t)]) [] (n, sl, hc a f0) Q := by
  obtain ⟨hp, hS, hlo, hhi, hfl, ⟨hN, hN8⟩, hrg, hSo, hto⟩ := hR
  have hp5 := hp.1
  have hq := hS.1
  obtain ⟨-, -, had, hx, -, hy, hz⟩ := hok
  have hrow := (hrg m (Nat.zero_le _) hm).1
  rw [hcm] at had hx hy hz hrow
  unfold mz_ad at had
  dsimp only at had hx hy hz
  have hq5 := hq.1
  have hix := ix_of (w := m) (m := 800) (by omega) (by omega)
  have h0 : a.AI 2 3 0 m = 18 := hrow.1 0 (by decide) (by decide)
  refine b_92_0 _ _ _ (by first | (exact hc_o (by first | assumption | (exact ⟨by decide, rfl⟩))) | assumption | (exact (hc_far (by omega)).trans (by assumption))) (by omega) (by first | rfl | assumption) ?_ ?_
  · intro z0
    exact absurd hfl z0
  · intro z0
    refine b_92_7 _ _ _ ?_ ?_
    · intro z7
      exact absurd ((i_lt (a := 100) rfl rfl (by omega) (by omega)).mp z7) (by omega)
    · intro z7
      refine b_92_13 _ _ _ (by first | (exact hc_o (by first | assumption | (exact ⟨by decide, rfl⟩))) | assumption | (exact (hc_far (by omega)).trans (by assumption))) (by omega) (by first | rfl | assumption) (by first | (exact hc_o (by first | assumption | (exact ⟨by decide, rfl⟩))) | assumption | (exact (hc_far (by omega)).trans (by assumption))) (by omega) ?_
      refine cv_has hn hN hN8 (by omega) (fun _ => ?_) (fun h => ?_)
      · refine b_92_21 _ _ _ ?_ ?_
        · intro z21
          refine b_92_26 (t21 := 76) _ _ _ _ _ _ (by first | (exact hc_o (by first | assumption | (exact ⟨by decide, rfl⟩))) | assumption | (exact (hc_far (by omega)).trans (by assumption))) (by omega) (by first | rfl | assumption) (by first | (exact hc_o (by first | assumption | (exact ⟨by decide, rfl⟩))) | assumption | (exact (hc_far (by omega)).trans (by assumption))) (by omega) (by first | rfl | assumption) (by first | (exact hc_ai (by omega) (by first | assumption | (exact (ht9 (by assumption)).2.1) | (exact (ht9 (by assumption)).2.2.1) | (exact (ht9 (by assumption)).2.2.2) | rfl) (by decide)) | assumption | (exact (hc_far (by omega)).trans (by assumption))) (Or.inl (by omega)) (by first | assumption | (exact ix_of (by omega) (by omega)) | (exact ⟨by decide, rfl, by decide⟩)) (by rw [h0]; decide +kernel) ?_
          refine b_92_76 _ _ _ ?_
          exact K _ false (by decide) ⟨rfl, rfl⟩
        · intro z21
          first | (exact absurd z21 (by decide)) | (exact absurd (by decide) z21) | (exact absurd rfl z21) | (exact absurd z21 (of_nn (by omega))) | (exact absurd (of_np (by omega)) z21) | omega
      · exact absurd hm h
theorem cv_t23 {A B D x y z : Nat} {v : Int64} {q : Nat × Nat} (hn : 575 ≤ n) (hR : cRk a p N tb S lo hi) (hk : k ≤ 99) (ht : t + (k + 1) ≤ 101) (hm : m < N) (IV : cIV n sl f0 a p N tb S lo hi k) (IT : cIT n sl f0 a p N tb S lo hi k) (he : k ≤ e) (hcm : tb m = (23, A, B, D, v, x, y, z, q)) (hok : mz_ok tb N (k + 1) 2 m) (K : ∀ r l', (r = 0 ∨ r = 1) → cvo cvt (mv_t S (mv_E tb S lo hi k) (23, A, B, D, v, x, y, z, q)) false r l' → Q (.inl (some (.int r))) (n, sl, hc (cvL p a l') f0)) : mi_W (e + 4) 92 0 (mi_en 6 [.ref p, .int (Int32.ofNat m), .int (Int32.ofNat t)]) [] (n, sl, hc a f0) Q := by
  obtain ⟨hp, hS, hlo, hhi, hfl, ⟨hN, hN8⟩, hrg, hSo, hto⟩ := hR
  have hp5 := hp.1
  have hq := hS.1
  obtain ⟨-, -, had, hx, -, hy, hz⟩ := hok
  have hrow := (hrg m (Nat.zero_le _) hm).1
  rw [hcm] at had hx hy hz hrow
  unfold mz_ad at had
  dsimp only at had hx hy hz
  have hq5 := hq.1
  have hix := ix_of (w := m) (m := 800) (by omega) (by omega)
  have h0 : a.AI 2 3 0 m = 19 := hrow.1 0 (by decide) (by decide)
  refine b_92_0 _ _ _ (by first | (exact hc_o (by first | assumption | (exact ⟨by decide, rfl⟩))) | assumption | (exact (hc_far (by omega)).trans (by assumption))) (by omega) (by first | rfl | assumption) ?_ ?_
  · intro z0
    exact absurd hfl z0
  · intro z0
    refine b_92_7 _ _ _ ?_ ?_
    · intro z7
      exact absurd ((i_lt (a := 100) rfl rfl (by omega) (by omega)).mp z7) (by omega)
    · intro z7
      refine b_92_13 _ _ _ (by first | (exact hc_o (by first | assumption | (exact ⟨by decide, rfl⟩))) | assumption | (exact (hc_far (by omega)).trans (by assumption))) (by omega) (by first | rfl | assumption) (by first | (exact hc_o (by first | assumption | (exact ⟨by decide, rfl⟩))) | assumption | (exact (hc_far (by omega)).trans (by assumption))) (by omega) ?_
      refine cv_has hn hN hN8 (by omega) (fun _ => ?_) (fun h => ?_)
      · refine b_92_21 _ _ _ ?_ ?_
        · intro z21
          refine b_92_26 (t21 := 78) _ _ _ _ _ _ (by first | (exact hc_o (by first | assumption | (exact ⟨by decide, rfl⟩))) | assumption | (exact (hc_far (by omega)).trans (by assumption))) (by omega) (by first | rfl | assumption) (by first | (exact hc_o (by first | assumption | (exact ⟨by decide, rfl⟩))) | assumption | (exact (hc_far (by omega)).trans (by assumption))) (by omega) (by first | rfl | assumption) (by first | (exact hc_ai (by omega) (by first | assumption | (exact (ht9 (by assumption)).2.1) | (exact (ht9 (by assumption)).2.2.1) | (exact (ht9 (by assumption)).2.2.2) | rfl) (by decide)) | assumption | (exact (hc_far (by omega)).trans (by assumption))) (Or.inl (by omega)) (by first | assumption | (exact ix_of (by omega) (by omega)) | (exact ⟨by decide, rfl, by decide⟩)) (by rw [h0]; decide +kernel) ?_
          refine b_92_78 _ _ _ ?_
          exact K _ false (by decide) ⟨rfl, rfl⟩
        · intro z21
          first | (exact absurd z21 (by decide)) | (exact absurd (by decide) z21) | (exact absurd rfl z21) | (exact absurd z21 (of_nn (by omega))) | (exact absurd (of_np (by omega)) z21) | omega
      · exact absurd hm h
theorem cv_t24 {A B D x y z : Nat} {v : Int64} {q : Nat × Nat} (hn : 575 ≤ n) (hR : cRk a p N tb S lo hi) (hk : k ≤ 99) (ht : t + (k + 1) ≤ 101) (hm : m < N) (IV : cIV n sl f0 a p N tb S lo hi k) (IT : cIT n sl f0 a p N tb S lo hi k) (he : k ≤ e) (hcm : tb m = (24, A, B, D, v, x, y, z, q)) (hok : mz_ok tb N (k + 1) 2 m) (K : ∀ r l', (r = 0 ∨ r = 1) → cvo cvt (mv_t S (mv_E tb S lo hi k) (24, A, B, D, v, x, y, z, q)) false r l' → Q (.inl (some (.int r))) (n, sl, hc (cvL p a l') f0)) : mi_W (e + 4) 92 0 (mi_en 6 [.ref p, .int (Int32.ofNat m), .int (Int32.ofNat t)]) [] (n, sl, hc a f0) Q := by
  obtain ⟨hp, hS, hlo, hhi, hfl, ⟨hN, hN8⟩, hrg, hSo, hto⟩ := hR
  have hp5 := hp.1
  have hq := hS.1
  obtain ⟨-, -, had, hx, -, hy, hz⟩ := hok
  have hrow := (hrg m (Nat.zero_le _) hm).1
  rw [hcm] at had hx hy hz hrow
  unfold mz_ad at had
  dsimp only at had hx hy hz
  have hq5 := hq.1
  have hix := ix_of (w := m) (m := 800) (by omega) (by omega)
  have h0 : a.AI 2 3 0 m = 20 := hrow.1 0 (by decide) (by decide)
  have hxk : mz_ok tb N k 2 x := (hx (by decide)).2
  have h1 : a.AI 2 3 1 m = Int32.ofNat x := hrow.1 1 (by decide) (by decide)
  have hyk : mz_ok tb N k 2 y := (hy (by decide)).2
  have h3 : a.AI 2 3 3 m = Int32.ofNat y := hrow.1 3 (by decide) (by decide)
  refine b_92_0 _ _ _ (by first | (exact hc_o (by first | assumption | (exact ⟨by decide, rfl⟩))) | assumption | (exact (hc_far (by omega)).trans (by assumption))) (by omega) (by first | rfl | assumption) ?_ ?_
  · intro z0
    exact absurd hfl z0
  · intro z0
    refine b_92_7 _ _ _ ?_ ?_
    · intro z7
      exact absurd ((i_lt (a := 100) rfl rfl (by omega) (by omega)).mp z7) (by omega)
    · intro z7
      refine b_92_13 _ _ _ (by first | (exact hc_o (by first | assumption | (exact ⟨by decide, rfl⟩))) | assumption | (exact (hc_far (by omega)).trans (by assumption))) (by omega) (by first | rfl | assumption) (by first | (exact hc_o (by first | assumption | (exact ⟨by decide, rfl⟩))) | assumption | (exact (hc_far (by omega)).trans (by assumption))) (by omega) ?_
      refine cv_has hn hN hN8 (by omega) (fun _ => ?_) (fun h => ?_)
      · refine b_92_21 _ _ _ ?_ ?_
        · intro z21
          refine b_92_26 (t21 := 122) _ _ _ _ _ _ (by first | (exact hc_o (by first | assumption | (exact ⟨by decide, rfl⟩))) | assumption | (exact (hc_far (by omega)).trans (by assumption))) (by omega) (by first | rfl | assumption) (by first | (exact hc_o (by first | assumption | (exact ⟨by decide, rfl⟩))) | assumption | (exact (hc_far (by omega)).trans (by assumption))) (by omega) (by first | rfl | assumption) (by first | (exact hc_ai (by omega) (by first | assumption | (exact (ht9 (by assumption)).2.1) | (exact (ht9 (by assumption)).2.2.1) | (exact (ht9 (by assumption)).2.2.2) | rfl) (by decide)) | assumption | (exact (hc_far (by omega)).trans (by assumption))) (Or.inl (by omega)) (by first | assumption | (exact ix_of (by omega) (by omega)) | (exact ⟨by decide, rfl, by decide⟩)) (by rw [h0]; decide +kernel) ?_
          refine b_92_122 _ _ _ _ _ _ (by first | (exact hc_o (by first | assumption | (exact ⟨by decide, rfl⟩))) | assumption | (exact (hc_far (by omega)).trans (by assumption))) (by omega) (by first | rfl | assumption) (by first | (exact hc_o (by first | assumption | (exact ⟨by decide, rfl⟩))) | assumption | (exact (hc_far (by omega)).trans (by assumption))) (by omega) (by first | rfl | assumption) (by first | (exact hc_ai (by omega) (by first | assumption | (exact (ht9 (by assumption)).2.1) | (exact (ht9 (by assumption)).2.2.1) | (exact (ht9 (by assumption)).2.2.2) | rfl) (by decide)) | assumption | (exact (hc_far (by omega)).trans (by assumption))) (Or.inl (by omega)) (by first | assumption | (exact ix_of (by omega) (by omega)) | (exact ⟨by decide, rfl, by decide⟩)) (by first | (exact hc_o (by first | assumption | (exact ⟨by decide, rfl⟩))) | assumption | (exact (hc_far (by omega)).trans (by assumption))) (by omega) ?_
          rw [h1, of_succ]
          refine IT x (t + 1) _ false _ (by omega) (by omega) hxk (fun r1 l1 _ c1 => ?_)
          refine b_92_138 _ _ _ _ _ _ (by first | (exact hc_o (by first | assumption | (exact ⟨by decide, rfl⟩))) | assumption | (exact (hc_far (by omega)).trans (by assumption))) (by omega) (by first | rfl | assumption) (by first | (exact hc_o (by first | assumption | (exact ⟨by decide, rfl⟩))) | assumption | (exact (hc_far (by omega)).trans (by assumption))) (by omega) (by first | rfl | assumption) (by first | (exact hc_ai (by omega) (by first | assumption | (exact (ht9 (by assumption)).2.1) | (exact (ht9 (by assumption)).2.2.1) | (exact (ht9 (by assumption)).2.2.2) | rfl) (by decide)) | assumption | (exact (hc_far (by omega)).trans (by assumption))) (Or.inl (by omega)) (by first | assumption | (exact ix_of (by omega) (by omega)) | (exact ⟨by decide, rfl, by decide⟩)) (by first | (exact hc_o (by first | assumption | (exact ⟨by decide, rfl⟩))) | assumption | (exact (hc_far (by omega)).trans (by assumption))) (by omega) ?_
          have h3' : (cvL p a l1).AI 2 3 3 m = Int32.ofNat y := by rw [cvL_AI]; exact h3
          rw [h3', of_succ]
          refine IT y (t + 1) _ l1 _ (by omega) (by omega) hyk (fun r2 l2 _ c2 => ?_)
          refine b_92_156 _ _ _ ?_ ?_
          · intro z156
            exact absurd h0 z156
          · intro z156
            refine b_92_164 _ _ _ ?_ ?_
            · intro z164
              refine b_92_178 _ _ _ ?_
              refine b_92_197 _ _ _ (by first | assumption | (exact mL_get (by decide)) | (rw [mL_len]; decide) | (simp only [mL_set]; exact mL_get (by decide)) | (simp only [mL_set, mL_len]; decide) | (exact va_eq) | (exact (va_ne (by omega)).trans (by assumption)) | (exact (va_ne (by omega)).trans va_eq) | (exact (va_ne (by omega)).trans ((va_ne (by omega)).trans (by assumption))) | (exact (va_ne (by omega)).trans ((va_ne (by omega)).trans ((va_ne (by omega)).trans (by assumption)))) | rfl | (exact Or.inl rfl) | (exact Or.inr rfl) | omega | (exact Nat.le_of_ble_eq_true rfl) | decide | (exact ⟨by decide, rfl, by decide⟩)) ?_
              refine K _ _ (by decide) (cvo_2 (F := fun u w => some (u && w)) c1 c2 (fun e => e) (fun u w _ _ e1 e2 hl => ?_))
              subst e1 e2
              rw [hl]
              refine ⟨rfl, ?_⟩
              cases u <;> cases w <;> first | rfl | (exact absurd rfl z164) | (exact absurd rfl z169) | (exact absurd z164 (by decide)) | (exact absurd z169 (by decide))
            · intro z164
              refine b_92_169 _ _ _ ?_ ?_
              · intro z169
                refine b_92_178 _ _ _ ?_
                refine b_92_197 _ _ _ (by first | assumption | (exact mL_get (by decide)) | (rw [mL_len]; decide) | (simp only [mL_set]; exact mL_get (by decide)) | (simp only [mL_set, mL_len]; decide) | (exact va_eq) | (exact (va_ne (by omega)).trans (by assumption)) | (exact (va_ne (by omega)).trans va_eq) | (exact (va_ne (by omega)).trans ((va_ne (by omega)).trans (by assumption))) | (exact (va_ne (by omega)).trans ((va_ne (by omega)).trans ((va_ne (by omega)).trans (by assumption)))) | rfl | (exact Or.inl rfl) | (exact Or.inr rfl) | omega | (exact Nat.le_of_ble_eq_true rfl) | decide | (exact ⟨by decide, rfl, by decide⟩)) ?_
                refine K _ _ (by decide) (cvo_2 (F := fun u w => some (u && w)) c1 c2 (fun e => e) (fun u w _ _ e1 e2 hl => ?_))
                subst e1 e2
                rw [hl]
                refine ⟨rfl, ?_⟩
                cases u <;> cases w <;> first | rfl | (exact absurd rfl z164) | (exact absurd rfl z169) | (exact absurd z164 (by decide)) | (exact absurd z169 (by decide))
              · intro z169
                refine b_92_174 _ _ _ ?_
                refine b_92_197 _ _ _ (by first | assumption | (exact mL_get (by decide)) | (rw [mL_len]; decide) | (simp only [mL_set]; exact mL_get (by decide)) | (simp only [mL_set, mL_len]; decide) | (exact va_eq) | (exact (va_ne (by omega)).trans (by assumption)) | (exact (va_ne (by omega)).trans va_eq) | (exact (va_ne (by omega)).trans ((va_ne (by omega)).trans (by assumption))) | (exact (va_ne (by omega)).trans ((va_ne (by omega)).trans ((va_ne (by omega)).trans (by assumption)))) | rfl | (exact Or.inl rfl) | (exact Or.inr rfl) | omega | (exact Nat.le_of_ble_eq_true rfl) | decide | (exact ⟨by decide, rfl, by decide⟩)) ?_
                refine K _ _ (by decide) (cvo_2 (F := fun u w => some (u && w)) c1 c2 (fun e => e) (fun u w _ _ e1 e2 hl => ?_))
                subst e1 e2
                rw [hl]
                refine ⟨rfl, ?_⟩
                cases u <;> cases w <;> first | rfl | (exact absurd rfl z164) | (exact absurd rfl z169) | (exact absurd z164 (by decide)) | (exact absurd z169 (by decide))
        · intro z21
          first | (exact absurd z21 (by decide)) | (exact absurd (by decide) z21) | (exact absurd rfl z21) | (exact absurd z21 (of_nn (by omega))) | (exact absurd (of_np (by omega)) z21) | omega
      · exact absurd hm h
theorem cv_t25 {A B D x y z : Nat} {v : Int64} {q : Nat × Nat} (hn : 575 ≤ n) (hR : cRk a p N tb S lo hi) (hk : k ≤ 99) (ht : t + (k + 1) ≤ 101) (hm : m < N) (IV : cIV n sl f0 a p N tb S lo hi k) (IT : cIT n sl f0 a p N tb S lo hi k) (he : k ≤ e) (hcm : tb m = (25, A, B, D, v, x, y, z, q)) (hok : mz_ok tb N (k + 1) 2 m) (K : ∀ r l', (r = 0 ∨ r = 1) → cvo cvt (mv_t S (mv_E tb S lo hi k) (25, A, B, D, v, x, y, z, q)) false r l' → Q (.inl (some (.int r))) (n, sl, hc (cvL p a l') f0)) : mi_W (e + 4) 92 0 (mi_en 6 [.ref p, .int (Int32.ofNat m), .int (Int32.ofNat t)]) [] (n, sl, hc a f0) Q := by
  obtain ⟨hp, hS, hlo, hhi, hfl, ⟨hN, hN8⟩, hrg, hSo, hto⟩ := hR
  have hp5 := hp.1
  have hq := hS.1
  obtain ⟨-, -, had, hx, -, hy, hz⟩ := hok
  have hrow := (hrg m (Nat.zero_le _) hm).1
  rw [hcm] at had hx hy hz hrow
  unfold mz_ad at had
  dsimp only at had hx hy hz
  have hq5 := hq.1
  have hix := ix_of (w := m) (m := 800) (by omega) (by omega)
  have h0 : a.AI 2 3 0 m = 21 := hrow.1 0 (by decide) (by decide)
  have hxk : mz_ok tb N k 2 x := (hx (by decide)).2
  have h1 : a.AI 2 3 1 m = Int32.ofNat x := hrow.1 1 (by decide) (by decide)
  have hyk : mz_ok tb N k 2 y := (hy (by decide)).2
  have h3 : a.AI 2 3 3 m = Int32.ofNat y := hrow.1 3 (by decide) (by decide)
  refine b_92_0 _ _ _ (by first | (exact hc_o (by first | assumption | (exact ⟨by decide, rfl⟩))) | assumption | (exact (hc_far (by omega)).trans (by assumption))) (by omega) (by first | rfl | assumption) ?_ ?_
  · intro z0
    exact absurd hfl z0
  · intro z0
    refine b_92_7 _ _ _ ?_ ?_
    · intro z7
      exact absurd ((i_lt (a := 100) rfl rfl (by omega) (by omega)).mp z7) (by omega)
    · intro z7
      refine b_92_13 _ _ _ (by first | (exact hc_o (by first | assumption | (exact ⟨by decide, rfl⟩))) | assumption | (exact (hc_far (by omega)).trans (by assumption))) (by omega) (by first | rfl | assumption) (by first | (exact hc_o (by first | assumption | (exact ⟨by decide, rfl⟩))) | assumption | (exact (hc_far (by omega)).trans (by assumption))) (by omega) ?_
      refine cv_has hn hN hN8 (by omega) (fun _ => ?_) (fun h => ?_)
      · refine b_92_21 _ _ _ ?_ ?_
        · intro z21
          refine b_92_26 (t21 := 122) _ _ _ _ _ _ (by first | (exact hc_o (by first | assumption | (exact ⟨by decide, rfl⟩))) | assumption | (exact (hc_far (by omega)).trans (by assumption))) (by omega) (by first | rfl | assumption) (by first | (exact hc_o (by first | assumption | (exact ⟨by decide, rfl⟩))) | assumption | (exact (hc_far (by omega)).trans (by assumption))) (by omega) (by first | rfl | assumption) (by first | (exact hc_ai (by omega) (by first | assumption | (exact (ht9 (by assumption)).2.1) | (exact (ht9 (by assumption)).2.2.1) | (exact (ht9 (by assumption)).2.2.2) | rfl) (by decide)) | assumption | (exact (hc_far (by omega)).trans (by assumption))) (Or.inl (by omega)) (by first | assumption | (exact ix_of (by omega) (by omega)) | (exact ⟨by decide, rfl, by decide⟩)) (by rw [h0]; decide +kernel) ?_
          refine b_92_122 _ _ _ _ _ _ (by first | (exact hc_o (by first | assumption | (exact ⟨by decide, rfl⟩))) | assumption | (exact (hc_far (by omega)).trans (by assumption))) (by omega) (by first | rfl | assumption) (by first | (exact hc_o (by first | assumption | (exact ⟨by decide, rfl⟩))) | assumption | (exact (hc_far (by omega)).trans (by assumption))) (by omega) (by first | rfl | assumption) (by first | (exact hc_ai (by omega) (by first | assumption | (exact (ht9 (by assumption)).2.1) | (exact (ht9 (by assumption)).2.2.1) | (exact (ht9 (by assumption)).2.2.2) | rfl) (by decide)) | assumption | (exact (hc_far (by omega)).trans (by assumption))) (Or.inl (by omega)) (by first | assumption | (exact ix_of (by omega) (by omega)) | (exact ⟨by decide, rfl, by decide⟩)) (by first | (exact hc_o (by first | assumption | (exact ⟨by decide, rfl⟩))) | assumption | (exact (hc_far (by omega)).trans (by assumption))) (by omega) ?_
          rw [h1, of_succ]
          refine IT x (t + 1) _ false _ (by omega) (by omega) hxk (fun r1 l1 _ c1 => ?_)
          refine b_92_138 _ _ _ _ _ _ (by first | (exact hc_o (by first | assumption | (exact ⟨by decide, rfl⟩))) | assumption | (exact (hc_far (by omega)).trans (by assumption))) (by omega) (by first | rfl | assumption) (by first | (exact hc_o (by first | assumption | (exact ⟨by decide, rfl⟩))) | assumption | (exact (hc_far (by omega)).trans (by assumption))) (by omega) (by first | rfl | assumption) (by first | (exact hc_ai (by omega) (by first | assumption | (exact (ht9 (by assumption)).2.1) | (exact (ht9 (by assumption)).2.2.1) | (exact (ht9 (by assumption)).2.2.2) | rfl) (by decide)) | assumption | (exact (hc_far (by omega)).trans (by assumption))) (Or.inl (by omega)) (by first | assumption | (exact ix_of (by omega) (by omega)) | (exact ⟨by decide, rfl, by decide⟩)) (by first | (exact hc_o (by first | assumption | (exact ⟨by decide, rfl⟩))) | assumption | (exact (hc_far (by omega)).trans (by assumption))) (by omega) ?_
          have h3' : (cvL p a l1).AI 2 3 3 m = Int32.ofNat y := by rw [cvL_AI]; exact h3
          rw [h3', of_succ]
          refine IT y (t + 1) _ l1 _ (by omega) (by omega) hyk (fun r2 l2 _ c2 => ?_)
          refine b_92_156 _ _ _ ?_ ?_
          · intro z156
            refine b_92_182 _ _ _ ?_ ?_
            · intro z182
              refine b_92_192 _ _ _ ?_
              refine b_92_197 _ _ _ (by first | assumption | (exact mL_get (by decide)) | (rw [mL_len]; decide) | (simp only [mL_set]; exact mL_get (by decide)) | (simp only [mL_set, mL_len]; decide) | (exact va_eq) | (exact (va_ne (by omega)).trans (by assumption)) | (exact (va_ne (by omega)).trans va_eq) | (exact (va_ne (by omega)).trans ((va_ne (by omega)).trans (by assumption))) | (exact (va_ne (by omega)).trans ((va_ne (by omega)).trans ((va_ne (by omega)).trans (by assumption)))) | rfl | (exact Or.inl rfl) | (exact Or.inr rfl) | omega | (exact Nat.le_of_ble_eq_true rfl) | decide | (exact ⟨by decide, rfl, by decide⟩)) ?_
              refine K _ _ (by decide) (cvo_2 (F := fun u w => some (u || w)) c1 c2 (fun e => e) (fun u w _ _ e1 e2 hl => ?_))
              subst e1 e2
              rw [hl]
              refine ⟨rfl, ?_⟩
              cases u <;> cases w <;> first | rfl | (exact absurd rfl z182) | (exact absurd rfl z187) | (exact absurd z182 (by decide)) | (exact absurd z187 (by decide))
            · intro z182
              refine b_92_187 _ _ _ ?_ ?_
              · intro z187
                refine b_92_196 _ _ _ ?_
                refine b_92_197 _ _ _ (by first | assumption | (exact mL_get (by decide)) | (rw [mL_len]; decide) | (simp only [mL_set]; exact mL_get (by decide)) | (simp only [mL_set, mL_len]; decide) | (exact va_eq) | (exact (va_ne (by omega)).trans (by assumption)) | (exact (va_ne (by omega)).trans va_eq) | (exact (va_ne (by omega)).trans ((va_ne (by omega)).trans (by assumption))) | (exact (va_ne (by omega)).trans ((va_ne (by omega)).trans ((va_ne (by omega)).trans (by assumption)))) | rfl | (exact Or.inl rfl) | (exact Or.inr rfl) | omega | (exact Nat.le_of_ble_eq_true rfl) | decide | (exact ⟨by decide, rfl, by decide⟩)) ?_
                refine K _ _ (by decide) (cvo_2 (F := fun u w => some (u || w)) c1 c2 (fun e => e) (fun u w _ _ e1 e2 hl => ?_))
                subst e1 e2
                rw [hl]
                refine ⟨rfl, ?_⟩
                cases u <;> cases w <;> first | rfl | (exact absurd rfl z182) | (exact absurd rfl z187) | (exact absurd z182 (by decide)) | (exact absurd z187 (by decide))
              · intro z187
                refine b_92_192 _ _ _ ?_
                refine b_92_197 _ _ _ (by first | assumption | (exact mL_get (by decide)) | (rw [mL_len]; decide) | (simp only [mL_set]; exact mL_get (by decide)) | (simp only [mL_set, mL_len]; decide) | (exact va_eq) | (exact (va_ne (by omega)).trans (by assumption)) | (exact (va_ne (by omega)).trans va_eq) | (exact (va_ne (by omega)).trans ((va_ne (by omega)).trans (by assumption))) | (exact (va_ne (by omega)).trans ((va_ne (by omega)).trans ((va_ne (by omega)).trans (by assumption)))) | rfl | (exact Or.inl rfl) | (exact Or.inr rfl) | omega | (exact Nat.le_of_ble_eq_true rfl) | decide | (exact ⟨by decide, rfl, by decide⟩)) ?_
                refine K _ _ (by decide) (cvo_2 (F := fun u w => some (u || w)) c1 c2 (fun e => e) (fun u w _ _ e1 e2 hl => ?_))
                subst e1 e2
                rw [hl]
                refine ⟨rfl, ?_⟩
                cases u <;> cases w <;> first | rfl | (exact absurd rfl z182) | (exact absurd rfl z187) | (exact absurd z182 (by decide)) | (exact absurd z187 (by decide))
          · intro z156
            exact absurd (Classical.not_not.mp z156) (by rw [h0]; decide)
        · intro z21
          first | (exact absurd z21 (by decide)) | (exact absurd (by decide) z21) | (exact absurd rfl z21) | (exact absurd z21 (of_nn (by omega))) | (exact absurd (of_np (by omega)) z21) | omega
      · exact absurd hm h
theorem cv_t26 {A B D x y z : Nat} {v : Int64} {q : Nat × Nat} (hn : 575 ≤ n) (hR : cRk a p N tb S lo hi) (hk : k ≤ 99) (ht : t + (k + 1) ≤ 101) (hm : m < N) (IV : cIV n sl f0 a p N tb S lo hi k) (IT : cIT n sl f0 a p N tb S lo hi k) (he : k ≤ e) (hcm : tb m = (26, A, B, D, v, x, y, z, q)) (hok : mz_ok tb N (k + 1) 2 m) (K : ∀ r l', (r = 0 ∨ r = 1) → cvo cvt (mv_t S (mv_E tb S lo hi k) (26, A, B, D, v, x, y, z, q)) false r l' → Q (.inl (some (.int r))) (n, sl, hc (cvL p a l') f0)) : mi_W (e + 4) 92 0 (mi_en 6 [.ref p, .int (Int32.ofNat m), .int (Int32.ofNat t)]) [] (n, sl, hc a f0) Q := by
  obtain ⟨hp, hS, hlo, hhi, hfl, ⟨hN, hN8⟩, hrg, hSo, hto⟩ := hR
  have hp5 := hp.1
  have hq := hS.1
  obtain ⟨-, -, had, hx, -, hy, hz⟩ := hok
  have hrow := (hrg m (Nat.zero_le _) hm).1
  rw [hcm] at had hx hy hz hrow
  unfold mz_ad at had
  dsimp only at had hx hy hz
  have hq5 := hq.1
  have hix := ix_of (w := m) (m := 800) (by omega) (by omega)
  have h0 : a.AI 2 3 0 m = 22 := hrow.1 0 (by decide) (by decide)
  have hxk : mz_ok tb N k 2 x := (hx (by decide)).2
  have h1 : a.AI 2 3 1 m = Int32.ofNat x := hrow.1 1 (by decide) (by decide)
  refine b_92_0 _ _ _ (by first | (exact hc_o (by first | assumption | (exact ⟨by decide, rfl⟩))) | assumption | (exact (hc_far (by omega)).trans (by assumption))) (by omega) (by first | rfl | assumption) ?_ ?_
  · intro z0
    exact absurd hfl z0
  · intro z0
    refine b_92_7 _ _ _ ?_ ?_
    · intro z7
      exact absurd ((i_lt (a := 100) rfl rfl (by omega) (by omega)).mp z7) (by omega)
    · intro z7
      refine b_92_13 _ _ _ (by first | (exact hc_o (by first | assumption | (exact ⟨by decide, rfl⟩))) | assumption | (exact (hc_far (by omega)).trans (by assumption))) (by omega) (by first | rfl | assumption) (by first | (exact hc_o (by first | assumption | (exact ⟨by decide, rfl⟩))) | assumption | (exact (hc_far (by omega)).trans (by assumption))) (by omega) ?_
      refine cv_has hn hN hN8 (by omega) (fun _ => ?_) (fun h => ?_)
      · refine b_92_21 _ _ _ ?_ ?_
        · intro z21
          refine b_92_26 (t21 := 80) _ _ _ _ _ _ (by first | (exact hc_o (by first | assumption | (exact ⟨by decide, rfl⟩))) | assumption | (exact (hc_far (by omega)).trans (by assumption))) (by omega) (by first | rfl | assumption) (by first | (exact hc_o (by first | assumption | (exact ⟨by decide, rfl⟩))) | assumption | (exact (hc_far (by omega)).trans (by assumption))) (by omega) (by first | rfl | assumption) (by first | (exact hc_ai (by omega) (by first | assumption | (exact (ht9 (by assumption)).2.1) | (exact (ht9 (by assumption)).2.2.1) | (exact (ht9 (by assumption)).2.2.2) | rfl) (by decide)) | assumption | (exact (hc_far (by omega)).trans (by assumption))) (Or.inl (by omega)) (by first | assumption | (exact ix_of (by omega) (by omega)) | (exact ⟨by decide, rfl, by decide⟩)) (by rw [h0]; decide +kernel) ?_
          refine b_92_80 _ _ _ _ _ _ (by first | (exact hc_o (by first | assumption | (exact ⟨by decide, rfl⟩))) | assumption | (exact (hc_far (by omega)).trans (by assumption))) (by omega) (by first | rfl | assumption) (by first | (exact hc_o (by first | assumption | (exact ⟨by decide, rfl⟩))) | assumption | (exact (hc_far (by omega)).trans (by assumption))) (by omega) (by first | rfl | assumption) (by first | (exact hc_ai (by omega) (by first | assumption | (exact (ht9 (by assumption)).2.1) | (exact (ht9 (by assumption)).2.2.1) | (exact (ht9 (by assumption)).2.2.2) | rfl) (by decide)) | assumption | (exact (hc_far (by omega)).trans (by assumption))) (Or.inl (by omega)) (by first | assumption | (exact ix_of (by omega) (by omega)) | (exact ⟨by decide, rfl, by decide⟩)) (by first | (exact hc_o (by first | assumption | (exact ⟨by decide, rfl⟩))) | assumption | (exact (hc_far (by omega)).trans (by assumption))) (by omega) ?_
          rw [h1, of_succ]
          refine IT x (t + 1) _ false _ (by omega) (by omega) hxk (fun r1 l1 _ c1 => ?_)
          refine b_92_96 _ _ _ ?_ ?_
          · intro z96
            refine b_92_103 _ _ _ ?_
            refine b_92_104 _ _ _ (by first | assumption | (exact mL_get (by decide)) | (rw [mL_len]; decide) | (simp only [mL_set]; exact mL_get (by decide)) | (simp only [mL_set, mL_len]; decide) | (exact va_eq) | (exact (va_ne (by omega)).trans (by assumption)) | (exact (va_ne (by omega)).trans va_eq) | (exact (va_ne (by omega)).trans ((va_ne (by omega)).trans (by assumption))) | (exact (va_ne (by omega)).trans ((va_ne (by omega)).trans ((va_ne (by omega)).trans (by assumption)))) | rfl | (exact Or.inl rfl) | (exact Or.inr rfl) | omega | (exact Nat.le_of_ble_eq_true rfl) | decide | (exact ⟨by decide, rfl, by decide⟩)) ?_
            refine K _ _ (by decide) (cvo_m (F := fun u => !u) c1 (fun u _ e => ?_))
            subst e
            cases u
            · first | rfl | exact absurd rfl z96
            · first | rfl | exact absurd (Classical.not_not.mp z96) (by decide)
          · intro z96
            refine b_92_99 _ _ _ ?_
            refine b_92_104 _ _ _ (by first | assumption | (exact mL_get (by decide)) | (rw [mL_len]; decide) | (simp only [mL_set]; exact mL_get (by decide)) | (simp only [mL_set, mL_len]; decide) | (exact va_eq) | (exact (va_ne (by omega)).trans (by assumption)) | (exact (va_ne (by omega)).trans va_eq) | (exact (va_ne (by omega)).trans ((va_ne (by omega)).trans (by assumption))) | (exact (va_ne (by omega)).trans ((va_ne (by omega)).trans ((va_ne (by omega)).trans (by assumption)))) | rfl | (exact Or.inl rfl) | (exact Or.inr rfl) | omega | (exact Nat.le_of_ble_eq_true rfl) | decide | (exact ⟨by decide, rfl, by decide⟩)) ?_
            refine K _ _ (by decide) (cvo_m (F := fun u => !u) c1 (fun u _ e => ?_))
            subst e
            cases u
            · first | rfl | exact absurd rfl z96
            · first | rfl | exact absurd (Classical.not_not.mp z96) (by decide)
        · intro z21
          first | (exact absurd z21 (by decide)) | (exact absurd (by decide) z21) | (exact absurd rfl z21) | (exact absurd z21 (of_nn (by omega))) | (exact absurd (of_np (by omega)) z21) | omega
      · exact absurd hm h
theorem cv_t27 {A B D x y z : Nat} {v : Int64} {q : Nat × Nat} (hn : 575 ≤ n) (hR : cRk a p N tb S lo hi) (hk : k ≤ 99) (ht : t + (k + 1) ≤ 101) (hm : m < N) (IV : cIV n sl f0 a p N tb S lo hi k) (IT : cIT n sl f0 a p N tb S lo hi k) (he : k ≤ e) (hcm : tb m = (27, A, B, D, v, x, y, z, q)) (hok : mz_ok tb N (k + 1) 2 m) (K : ∀ r l', (r = 0 ∨ r = 1) → cvo cvt (mv_t S (mv_E tb S lo hi k) (27, A, B, D, v, x, y, z, q)) false r l' → Q (.inl (some (.int r))) (n, sl, hc (cvL p a l') f0)) : mi_W (e + 4) 92 0 (mi_en 6 [.ref p, .int (Int32.ofNat m), .int (Int32.ofNat t)]) [] (n, sl, hc a f0) Q := by
  obtain ⟨hp, hS, hlo, hhi, hfl, ⟨hN, hN8⟩, hrg, hSo, hto⟩ := hR
  have hp5 := hp.1
  have hq := hS.1
  obtain ⟨-, -, had, hx, -, hy, hz⟩ := hok
  have hrow := (hrg m (Nat.zero_le _) hm).1
  rw [hcm] at had hx hy hz hrow
  unfold mz_ad at had
  dsimp only at had hx hy hz
  have hq5 := hq.1
  have hix := ix_of (w := m) (m := 800) (by omega) (by omega)
  have h0 : a.AI 2 3 0 m = 23 := hrow.1 0 (by decide) (by decide)
  have hA : A < 8 := had.1 (by decide)
  have h4 : a.AI 2 3 4 m = Int32.ofNat A := hrow.1 4 (by decide) (by decide)
  refine b_92_0 _ _ _ (by first | (exact hc_o (by first | assumption | (exact ⟨by decide, rfl⟩))) | assumption | (exact (hc_far (by omega)).trans (by assumption))) (by omega) (by first | rfl | assumption) ?_ ?_
  · intro z0
    exact absurd hfl z0
  · intro z0
    refine b_92_7 _ _ _ ?_ ?_
    · intro z7
      exact absurd ((i_lt (a := 100) rfl rfl (by omega) (by omega)).mp z7) (by omega)
    · intro z7
      refine b_92_13 _ _ _ (by first | (exact hc_o (by first | assumption | (exact ⟨by decide, rfl⟩))) | assumption | (exact (hc_far (by omega)).trans (by assumption))) (by omega) (by first | rfl | assumption) (by first | (exact hc_o (by first | assumption | (exact ⟨by decide, rfl⟩))) | assumption | (exact (hc_far (by omega)).trans (by assumption))) (by omega) ?_
      refine cv_has hn hN hN8 (by omega) (fun _ => ?_) (fun h => ?_)
      · refine b_92_21 _ _ _ ?_ ?_
        · intro z21
          refine b_92_26 (t21 := 105) _ _ _ _ _ _ (by first | (exact hc_o (by first | assumption | (exact ⟨by decide, rfl⟩))) | assumption | (exact (hc_far (by omega)).trans (by assumption))) (by omega) (by first | rfl | assumption) (by first | (exact hc_o (by first | assumption | (exact ⟨by decide, rfl⟩))) | assumption | (exact (hc_far (by omega)).trans (by assumption))) (by omega) (by first | rfl | assumption) (by first | (exact hc_ai (by omega) (by first | assumption | (exact (ht9 (by assumption)).2.1) | (exact (ht9 (by assumption)).2.2.1) | (exact (ht9 (by assumption)).2.2.2) | rfl) (by decide)) | assumption | (exact (hc_far (by omega)).trans (by assumption))) (Or.inl (by omega)) (by first | assumption | (exact ix_of (by omega) (by omega)) | (exact ⟨by decide, rfl, by decide⟩)) (by rw [h0]; decide +kernel) ?_
          refine b_92_105 _ _ _ _ _ _ (by first | (exact hc_o (by first | assumption | (exact ⟨by decide, rfl⟩))) | assumption | (exact (hc_far (by omega)).trans (by assumption))) (by omega) (by first | rfl | assumption) (by first | (exact hc_o (by first | assumption | (exact ⟨by decide, rfl⟩))) | assumption | (exact (hc_far (by omega)).trans (by assumption))) (by omega) (by first | rfl | assumption) (by first | (exact hc_o (by first | assumption | (exact ⟨by decide, rfl⟩))) | assumption | (exact (hc_far (by omega)).trans (by assumption))) (by omega) (by first | rfl | assumption) (by first | (exact hc_ai (by omega) (by first | assumption | (exact (ht9 (by assumption)).2.1) | (exact (ht9 (by assumption)).2.2.1) | (exact (ht9 (by assumption)).2.2.2) | rfl) (by decide)) | assumption | (exact (hc_far (by omega)).trans (by assumption))) (Or.inl (by omega)) (by first | assumption | (exact ix_of (by omega) (by omega)) | (exact ⟨by decide, rfl, by decide⟩)) (by first | (exact hc_o (by first | assumption | (exact ⟨by decide, rfl⟩))) | assumption | (exact (hc_far (by omega)).trans (by assumption))) (by omega) ?_
          rw [h4]
          refine cv_made hn hq (fun h => ?_) (fun h => ?_)
          · refine b_92_121 _ _ _ (by first | assumption | (exact mL_get (by decide)) | (rw [mL_len]; decide) | (simp only [mL_set]; exact mL_get (by decide)) | (simp only [mL_set, mL_len]; decide) | (exact va_eq) | (exact (va_ne (by omega)).trans (by assumption)) | (exact (va_ne (by omega)).trans va_eq) | (exact (va_ne (by omega)).trans ((va_ne (by omega)).trans (by assumption))) | (exact (va_ne (by omega)).trans ((va_ne (by omega)).trans ((va_ne (by omega)).trans (by assumption)))) | rfl | (exact Or.inl rfl) | (exact Or.inr rfl) | omega | (exact Nat.le_of_ble_eq_true rfl) | decide | (exact ⟨by decide, rfl, by decide⟩)) ?_
            exact K _ false (by decide) ⟨rfl, (if_pos ((hS.2.2.2.2.2.2.1 A hA).mp h)).symm⟩
          · refine b_92_121 _ _ _ (by first | assumption | (exact mL_get (by decide)) | (rw [mL_len]; decide) | (simp only [mL_set]; exact mL_get (by decide)) | (simp only [mL_set, mL_len]; decide) | (exact va_eq) | (exact (va_ne (by omega)).trans (by assumption)) | (exact (va_ne (by omega)).trans va_eq) | (exact (va_ne (by omega)).trans ((va_ne (by omega)).trans (by assumption))) | (exact (va_ne (by omega)).trans ((va_ne (by omega)).trans ((va_ne (by omega)).trans (by assumption)))) | rfl | (exact Or.inl rfl) | (exact Or.inr rfl) | omega | (exact Nat.le_of_ble_eq_true rfl) | decide | (exact ⟨by decide, rfl, by decide⟩)) ?_
            exact K _ false (by decide) ⟨rfl, (if_neg (fun e => h ((hS.2.2.2.2.2.2.1 A hA).mpr e))).symm⟩
        · intro z21
          first | (exact absurd z21 (by decide)) | (exact absurd (by decide) z21) | (exact absurd rfl z21) | (exact absurd z21 (of_nn (by omega))) | (exact absurd (of_np (by omega)) z21) | omega
      · exact absurd hm h
theorem cv_t28 {A B D x y z : Nat} {v : Int64} {q : Nat × Nat} (hn : 575 ≤ n) (hR : cRk a p N tb S lo hi) (hk : k ≤ 99) (ht : t + (k + 1) ≤ 101) (hm : m < N) (IV : cIV n sl f0 a p N tb S lo hi k) (IT : cIT n sl f0 a p N tb S lo hi k) (he : k ≤ e) (hcm : tb m = (28, A, B, D, v, x, y, z, q)) (hok : mz_ok tb N (k + 1) 2 m) (K : ∀ r l', (r = 0 ∨ r = 1) → cvo cvt (mv_t S (mv_E tb S lo hi k) (28, A, B, D, v, x, y, z, q)) false r l' → Q (.inl (some (.int r))) (n, sl, hc (cvL p a l') f0)) : mi_W (e + 4) 92 0 (mi_en 6 [.ref p, .int (Int32.ofNat m), .int (Int32.ofNat t)]) [] (n, sl, hc a f0) Q := by
  obtain ⟨hp, hS, hlo, hhi, hfl, ⟨hN, hN8⟩, hrg, hSo, hto⟩ := hR
  have hp5 := hp.1
  have hq := hS.1
  obtain ⟨-, -, had, hx, -, hy, hz⟩ := hok
  have hrow := (hrg m (Nat.zero_le _) hm).1
  rw [hcm] at had hx hy hz hrow
  unfold mz_ad at had
  dsimp only at had hx hy hz
  have hq5 := hq.1
  have hix := ix_of (w := m) (m := 800) (by omega) (by omega)
  have h0 : a.AI 2 3 0 m = 35 := hrow.1 0 (by decide) (by decide)
  have hxk : mz_ok tb N k 1 x := (hx (by decide)).2
  have h1 : a.AI 2 3 1 m = Int32.ofNat x := hrow.1 1 (by decide) (by decide)
  have hyk : mz_ok tb N k 1 y := (hy (by decide)).2
  have h3 : a.AI 2 3 3 m = Int32.ofNat y := hrow.1 3 (by decide) (by decide)
  refine b_92_0 _ _ _ (by first | (exact hc_o (by first | assumption | (exact ⟨by decide, rfl⟩))) | assumption | (exact (hc_far (by omega)).trans (by assumption))) (by omega) (by first | rfl | assumption) ?_ ?_
  · intro z0
    exact absurd hfl z0
  · intro z0
    refine b_92_7 _ _ _ ?_ ?_
    · intro z7
      exact absurd ((i_lt (a := 100) rfl rfl (by omega) (by omega)).mp z7) (by omega)
    · intro z7
      refine b_92_13 _ _ _ (by first | (exact hc_o (by first | assumption | (exact ⟨by decide, rfl⟩))) | assumption | (exact (hc_far (by omega)).trans (by assumption))) (by omega) (by first | rfl | assumption) (by first | (exact hc_o (by first | assumption | (exact ⟨by decide, rfl⟩))) | assumption | (exact (hc_far (by omega)).trans (by assumption))) (by omega) ?_
      refine cv_has hn hN hN8 (by omega) (fun _ => ?_) (fun h => ?_)
      · refine b_92_21 _ _ _ ?_ ?_
        · intro z21
          refine b_92_26 (t21 := 198) _ _ _ _ _ _ (by first | (exact hc_o (by first | assumption | (exact ⟨by decide, rfl⟩))) | assumption | (exact (hc_far (by omega)).trans (by assumption))) (by omega) (by first | rfl | assumption) (by first | (exact hc_o (by first | assumption | (exact ⟨by decide, rfl⟩))) | assumption | (exact (hc_far (by omega)).trans (by assumption))) (by omega) (by first | rfl | assumption) (by first | (exact hc_ai (by omega) (by first | assumption | (exact (ht9 (by assumption)).2.1) | (exact (ht9 (by assumption)).2.2.1) | (exact (ht9 (by assumption)).2.2.2) | rfl) (by decide)) | assumption | (exact (hc_far (by omega)).trans (by assumption))) (Or.inl (by omega)) (by first | assumption | (exact ix_of (by omega) (by omega)) | (exact ⟨by decide, rfl, by decide⟩)) (by rw [h0]; decide +kernel) ?_
          refine b_92_198 _ _ _ _ _ _ (by first | (exact hc_o (by first | assumption | (exact ⟨by decide, rfl⟩))) | assumption | (exact (hc_far (by omega)).trans (by assumption))) (by omega) (by first | rfl | assumption) (by first | (exact hc_o (by first | assumption | (exact ⟨by decide, rfl⟩))) | assumption | (exact (hc_far (by omega)).trans (by assumption))) (by omega) (by first | rfl | assumption) (by first | (exact hc_ai (by omega) (by first | assumption | (exact (ht9 (by assumption)).2.1) | (exact (ht9 (by assumption)).2.2.1) | (exact (ht9 (by assumption)).2.2.2) | rfl) (by decide)) | assumption | (exact (hc_far (by omega)).trans (by assumption))) (Or.inl (by omega)) (by first | assumption | (exact ix_of (by omega) (by omega)) | (exact ⟨by decide, rfl, by decide⟩)) (by first | (exact hc_o (by first | assumption | (exact ⟨by decide, rfl⟩))) | assumption | (exact (hc_far (by omega)).trans (by assumption))) (by omega) ?_
          rw [h1, of_succ]
          refine IV x (t + 1) _ false _ (by omega) (by omega) hxk (fun r1 l1 c1 => ?_)
          refine b_92_215 _ _ _ _ _ _ (by first | (exact hc_o (by first | assumption | (exact ⟨by decide, rfl⟩))) | assumption | (exact (hc_far (by omega)).trans (by assumption))) (by omega) (by first | rfl | assumption) (by first | (exact hc_o (by first | assumption | (exact ⟨by decide, rfl⟩))) | assumption | (exact (hc_far (by omega)).trans (by assumption))) (by omega) (by first | rfl | assumption) (by first | (exact hc_ai (by omega) (by first | assumption | (exact (ht9 (by assumption)).2.1) | (exact (ht9 (by assumption)).2.2.1) | (exact (ht9 (by assumption)).2.2.2) | rfl) (by decide)) | assumption | (exact (hc_far (by omega)).trans (by assumption))) (Or.inl (by omega)) (by first | assumption | (exact ix_of (by omega) (by omega)) | (exact ⟨by decide, rfl, by decide⟩)) (by first | (exact hc_o (by first | assumption | (exact ⟨by decide, rfl⟩))) | assumption | (exact (hc_far (by omega)).trans (by assumption))) (by omega) ?_
          have h3' : (cvL p a l1).AI 2 3 3 m = Int32.ofNat y := by rw [cvL_AI]; exact h3
          rw [h3', of_succ]
          refine IV y (t + 1) _ l1 _ (by omega) (by omega) hyk (fun r2 l2 c2 => ?_)
          refine b_92_231 _ _ _ ?_
          rw [show a.AI 2 3 0 m = Int32.ofNat (cz_k.getD 28 0) from h0]
          refine cv_cmp (op := 28) (by decide) ?_
          have h01 : (if mv_cmp 28 r1 r2 = true then (1 : Int32) else 0) = 0 ∨ (if mv_cmp 28 r1 r2 = true then (1 : Int32) else 0) = 1 := by split <;> simp
          refine b_92_234 _ _ _ (by first | assumption | (exact mL_get (by decide)) | (rw [mL_len]; decide) | (simp only [mL_set]; exact mL_get (by decide)) | (simp only [mL_set, mL_len]; decide) | (exact va_eq) | (exact (va_ne (by omega)).trans (by assumption)) | (exact (va_ne (by omega)).trans va_eq) | (exact (va_ne (by omega)).trans ((va_ne (by omega)).trans (by assumption))) | (exact (va_ne (by omega)).trans ((va_ne (by omega)).trans ((va_ne (by omega)).trans (by assumption)))) | rfl | (exact Or.inl rfl) | (exact Or.inr rfl) | omega | (exact Nat.le_of_ble_eq_true rfl) | decide | (exact ⟨by decide, rfl, by decide⟩)) ?_
          refine K _ _ h01 (cvo_2 (F := fun u w => some (mv_cmp 28 u w)) c1 c2 (fun e => e) (fun u w _ _ e1 e2 hl => ?_))
          subst e1 e2
          rw [hl]
          exact ⟨rfl, rfl⟩
        · intro z21
          first | (exact absurd z21 (by decide)) | (exact absurd (by decide) z21) | (exact absurd rfl z21) | (exact absurd z21 (of_nn (by omega))) | (exact absurd (of_np (by omega)) z21) | omega
      · exact absurd hm h
theorem cv_t29 {A B D x y z : Nat} {v : Int64} {q : Nat × Nat} (hn : 575 ≤ n) (hR : cRk a p N tb S lo hi) (hk : k ≤ 99) (ht : t + (k + 1) ≤ 101) (hm : m < N) (IV : cIV n sl f0 a p N tb S lo hi k) (IT : cIT n sl f0 a p N tb S lo hi k) (he : k ≤ e) (hcm : tb m = (29, A, B, D, v, x, y, z, q)) (hok : mz_ok tb N (k + 1) 2 m) (K : ∀ r l', (r = 0 ∨ r = 1) → cvo cvt (mv_t S (mv_E tb S lo hi k) (29, A, B, D, v, x, y, z, q)) false r l' → Q (.inl (some (.int r))) (n, sl, hc (cvL p a l') f0)) : mi_W (e + 4) 92 0 (mi_en 6 [.ref p, .int (Int32.ofNat m), .int (Int32.ofNat t)]) [] (n, sl, hc a f0) Q := by
  obtain ⟨hp, hS, hlo, hhi, hfl, ⟨hN, hN8⟩, hrg, hSo, hto⟩ := hR
  have hp5 := hp.1
  have hq := hS.1
  obtain ⟨-, -, had, hx, -, hy, hz⟩ := hok
  have hrow := (hrg m (Nat.zero_le _) hm).1
  rw [hcm] at had hx hy hz hrow
  unfold mz_ad at had
  dsimp only at had hx hy hz
  have hq5 := hq.1
  have hix := ix_of (w := m) (m := 800) (by omega) (by omega)
  have h0 : a.AI 2 3 0 m = 34 := hrow.1 0 (by decide) (by decide)
  have hxk : mz_ok tb N k 1 x := (hx (by decide)).2
  have h1 : a.AI 2 3 1 m = Int32.ofNat x := hrow.1 1 (by decide) (by decide)
  have hyk : mz_ok tb N k 1 y := (hy (by decide)).2
  have h3 : a.AI 2 3 3 m = Int32.ofNat y := hrow.1 3 (by decide) (by decide)
  refine b_92_0 _ _ _ (by first | (exact hc_o (by first | assumption | (exact ⟨by decide, rfl⟩))) | assumption | (exact (hc_far (by omega)).trans (by assumption))) (by omega) (by first | rfl | assumption) ?_ ?_
  · intro z0
    exact absurd hfl z0
  · intro z0
    refine b_92_7 _ _ _ ?_ ?_
    · intro z7
      exact absurd ((i_lt (a := 100) rfl rfl (by omega) (by omega)).mp z7) (by omega)
    · intro z7
      refine b_92_13 _ _ _ (by first | (exact hc_o (by first | assumption | (exact ⟨by decide, rfl⟩))) | assumption | (exact (hc_far (by omega)).trans (by assumption))) (by omega) (by first | rfl | assumption) (by first | (exact hc_o (by first | assumption | (exact ⟨by decide, rfl⟩))) | assumption | (exact (hc_far (by omega)).trans (by assumption))) (by omega) ?_
      refine cv_has hn hN hN8 (by omega) (fun _ => ?_) (fun h => ?_)
      · refine b_92_21 _ _ _ ?_ ?_
        · intro z21
          refine b_92_26 (t21 := 198) _ _ _ _ _ _ (by first | (exact hc_o (by first | assumption | (exact ⟨by decide, rfl⟩))) | assumption | (exact (hc_far (by omega)).trans (by assumption))) (by omega) (by first | rfl | assumption) (by first | (exact hc_o (by first | assumption | (exact ⟨by decide, rfl⟩))) | assumption | (exact (hc_far (by omega)).trans (by assumption))) (by omega) (by first | rfl | assumption) (by first | (exact hc_ai (by omega) (by first | assumption | (exact (ht9 (by assumption)).2.1) | (exact (ht9 (by assumption)).2.2.1) | (exact (ht9 (by assumption)).2.2.2) | rfl) (by decide)) | assumption | (exact (hc_far (by omega)).trans (by assumption))) (Or.inl (by omega)) (by first | assumption | (exact ix_of (by omega) (by omega)) | (exact ⟨by decide, rfl, by decide⟩)) (by rw [h0]; decide +kernel) ?_
          refine b_92_198 _ _ _ _ _ _ (by first | (exact hc_o (by first | assumption | (exact ⟨by decide, rfl⟩))) | assumption | (exact (hc_far (by omega)).trans (by assumption))) (by omega) (by first | rfl | assumption) (by first | (exact hc_o (by first | assumption | (exact ⟨by decide, rfl⟩))) | assumption | (exact (hc_far (by omega)).trans (by assumption))) (by omega) (by first | rfl | assumption) (by first | (exact hc_ai (by omega) (by first | assumption | (exact (ht9 (by assumption)).2.1) | (exact (ht9 (by assumption)).2.2.1) | (exact (ht9 (by assumption)).2.2.2) | rfl) (by decide)) | assumption | (exact (hc_far (by omega)).trans (by assumption))) (Or.inl (by omega)) (by first | assumption | (exact ix_of (by omega) (by omega)) | (exact ⟨by decide, rfl, by decide⟩)) (by first | (exact hc_o (by first | assumption | (exact ⟨by decide, rfl⟩))) | assumption | (exact (hc_far (by omega)).trans (by assumption))) (by omega) ?_
          rw [h1, of_succ]
          refine IV x (t + 1) _ false _ (by omega) (by omega) hxk (fun r1 l1 c1 => ?_)
          refine b_92_215 _ _ _ _ _ _ (by first | (exact hc_o (by first | assumption | (exact ⟨by decide, rfl⟩))) | assumption | (exact (hc_far (by omega)).trans (by assumption))) (by omega) (by first | rfl | assumption) (by first | (exact hc_o (by first | assumption | (exact ⟨by decide, rfl⟩))) | assumption | (exact (hc_far (by omega)).trans (by assumption))) (by omega) (by first | rfl | assumption) (by first | (exact hc_ai (by omega) (by first | assumption | (exact (ht9 (by assumption)).2.1) | (exact (ht9 (by assumption)).2.2.1) | (exact (ht9 (by assumption)).2.2.2) | rfl) (by decide)) | assumption | (exact (hc_far (by omega)).trans (by assumption))) (Or.inl (by omega)) (by first | assumption | (exact ix_of (by omega) (by omega)) | (exact ⟨by decide, rfl, by decide⟩)) (by first | (exact hc_o (by first | assumption | (exact ⟨by decide, rfl⟩))) | assumption | (exact (hc_far (by omega)).trans (by assumption))) (by omega) ?_
          have h3' : (cvL p a l1).AI 2 3 3 m = Int32.ofNat y := by rw [cvL_AI]; exact h3
          rw [h3', of_succ]
          refine IV y (t + 1) _ l1 _ (by omega) (by omega) hyk (fun r2 l2 c2 => ?_)
          refine b_92_231 _ _ _ ?_
          rw [show a.AI 2 3 0 m = Int32.ofNat (cz_k.getD 29 0) from h0]
          refine cv_cmp (op := 29) (by decide) ?_
          have h01 : (if mv_cmp 29 r1 r2 = true then (1 : Int32) else 0) = 0 ∨ (if mv_cmp 29 r1 r2 = true then (1 : Int32) else 0) = 1 := by split <;> simp
          refine b_92_234 _ _ _ (by first | assumption | (exact mL_get (by decide)) | (rw [mL_len]; decide) | (simp only [mL_set]; exact mL_get (by decide)) | (simp only [mL_set, mL_len]; decide) | (exact va_eq) | (exact (va_ne (by omega)).trans (by assumption)) | (exact (va_ne (by omega)).trans va_eq) | (exact (va_ne (by omega)).trans ((va_ne (by omega)).trans (by assumption))) | (exact (va_ne (by omega)).trans ((va_ne (by omega)).trans ((va_ne (by omega)).trans (by assumption)))) | rfl | (exact Or.inl rfl) | (exact Or.inr rfl) | omega | (exact Nat.le_of_ble_eq_true rfl) | decide | (exact ⟨by decide, rfl, by decide⟩)) ?_
          refine K _ _ h01 (cvo_2 (F := fun u w => some (mv_cmp 29 u w)) c1 c2 (fun e => e) (fun u w _ _ e1 e2 hl => ?_))
          subst e1 e2
          rw [hl]
          exact ⟨rfl, rfl⟩
        · intro z21
          first | (exact absurd z21 (by decide)) | (exact absurd (by decide) z21) | (exact absurd rfl z21) | (exact absurd z21 (of_nn (by omega))) | (exact absurd (of_np (by omega)) z21) | omega
      · exact absurd hm h
theorem cv_t30 {A B D x y z : Nat} {v : Int64} {q : Nat × Nat} (hn : 575 ≤ n) (hR : cRk a p N tb S lo hi) (hk : k ≤ 99) (ht : t + (k + 1) ≤ 101) (hm : m < N) (IV : cIV n sl f0 a p N tb S lo hi k) (IT : cIT n sl f0 a p N tb S lo hi k) (he : k ≤ e) (hcm : tb m = (30, A, B, D, v, x, y, z, q)) (hok : mz_ok tb N (k + 1) 2 m) (K : ∀ r l', (r = 0 ∨ r = 1) → cvo cvt (mv_t S (mv_E tb S lo hi k) (30, A, B, D, v, x, y, z, q)) false r l' → Q (.inl (some (.int r))) (n, sl, hc (cvL p a l') f0)) : mi_W (e + 4) 92 0 (mi_en 6 [.ref p, .int (Int32.ofNat m), .int (Int32.ofNat t)]) [] (n, sl, hc a f0) Q := by
  obtain ⟨hp, hS, hlo, hhi, hfl, ⟨hN, hN8⟩, hrg, hSo, hto⟩ := hR
  have hp5 := hp.1
  have hq := hS.1
  obtain ⟨-, -, had, hx, -, hy, hz⟩ := hok
  have hrow := (hrg m (Nat.zero_le _) hm).1
  rw [hcm] at had hx hy hz hrow
  unfold mz_ad at had
  dsimp only at had hx hy hz
  have hq5 := hq.1
  have hix := ix_of (w := m) (m := 800) (by omega) (by omega)
  have h0 : a.AI 2 3 0 m = 33 := hrow.1 0 (by decide) (by decide)
  have hxk : mz_ok tb N k 1 x := (hx (by decide)).2
  have h1 : a.AI 2 3 1 m = Int32.ofNat x := hrow.1 1 (by decide) (by decide)
  have hyk : mz_ok tb N k 1 y := (hy (by decide)).2
  have h3 : a.AI 2 3 3 m = Int32.ofNat y := hrow.1 3 (by decide) (by decide)
  refine b_92_0 _ _ _ (by first | (exact hc_o (by first | assumption | (exact ⟨by decide, rfl⟩))) | assumption | (exact (hc_far (by omega)).trans (by assumption))) (by omega) (by first | rfl | assumption) ?_ ?_
  · intro z0
    exact absurd hfl z0
  · intro z0
    refine b_92_7 _ _ _ ?_ ?_
    · intro z7
      exact absurd ((i_lt (a := 100) rfl rfl (by omega) (by omega)).mp z7) (by omega)
    · intro z7
      refine b_92_13 _ _ _ (by first | (exact hc_o (by first | assumption | (exact ⟨by decide, rfl⟩))) | assumption | (exact (hc_far (by omega)).trans (by assumption))) (by omega) (by first | rfl | assumption) (by first | (exact hc_o (by first | assumption | (exact ⟨by decide, rfl⟩))) | assumption | (exact (hc_far (by omega)).trans (by assumption))) (by omega) ?_
      refine cv_has hn hN hN8 (by omega) (fun _ => ?_) (fun h => ?_)
      · refine b_92_21 _ _ _ ?_ ?_
        · intro z21
          refine b_92_26 (t21 := 198) _ _ _ _ _ _ (by first | (exact hc_o (by first | assumption | (exact ⟨by decide, rfl⟩))) | assumption | (exact (hc_far (by omega)).trans (by assumption))) (by omega) (by first | rfl | assumption) (by first | (exact hc_o (by first | assumption | (exact ⟨by decide, rfl⟩))) | assumption | (exact (hc_far (by omega)).trans (by assumption))) (by omega) (by first | rfl | assumption) (by first | (exact hc_ai (by omega) (by first | assumption | (exact (ht9 (by assumption)).2.1) | (exact (ht9 (by assumption)).2.2.1) | (exact (ht9 (by assumption)).2.2.2) | rfl) (by decide)) | assumption | (exact (hc_far (by omega)).trans (by assumption))) (Or.inl (by omega)) (by first | assumption | (exact ix_of (by omega) (by omega)) | (exact ⟨by decide, rfl, by decide⟩)) (by rw [h0]; decide +kernel) ?_
          refine b_92_198 _ _ _ _ _ _ (by first | (exact hc_o (by first | assumption | (exact ⟨by decide, rfl⟩))) | assumption | (exact (hc_far (by omega)).trans (by assumption))) (by omega) (by first | rfl | assumption) (by first | (exact hc_o (by first | assumption | (exact ⟨by decide, rfl⟩))) | assumption | (exact (hc_far (by omega)).trans (by assumption))) (by omega) (by first | rfl | assumption) (by first | (exact hc_ai (by omega) (by first | assumption | (exact (ht9 (by assumption)).2.1) | (exact (ht9 (by assumption)).2.2.1) | (exact (ht9 (by assumption)).2.2.2) | rfl) (by decide)) | assumption | (exact (hc_far (by omega)).trans (by assumption))) (Or.inl (by omega)) (by first | assumption | (exact ix_of (by omega) (by omega)) | (exact ⟨by decide, rfl, by decide⟩)) (by first | (exact hc_o (by first | assumption | (exact ⟨by decide, rfl⟩))) | assumption | (exact (hc_far (by omega)).trans (by assumption))) (by omega) ?_
          rw [h1, of_succ]
          refine IV x (t + 1) _ false _ (by omega) (by omega) hxk (fun r1 l1 c1 => ?_)
          refine b_92_215 _ _ _ _ _ _ (by first | (exact hc_o (by first | assumption | (exact ⟨by decide, rfl⟩))) | assumption | (exact (hc_far (by omega)).trans (by assumption))) (by omega) (by first | rfl | assumption) (by first | (exact hc_o (by first | assumption | (exact ⟨by decide, rfl⟩))) | assumption | (exact (hc_far (by omega)).trans (by assumption))) (by omega) (by first | rfl | assumption) (by first | (exact hc_ai (by omega) (by first | assumption | (exact (ht9 (by assumption)).2.1) | (exact (ht9 (by assumption)).2.2.1) | (exact (ht9 (by assumption)).2.2.2) | rfl) (by decide)) | assumption | (exact (hc_far (by omega)).trans (by assumption))) (Or.inl (by omega)) (by first | assumption | (exact ix_of (by omega) (by omega)) | (exact ⟨by decide, rfl, by decide⟩)) (by first | (exact hc_o (by first | assumption | (exact ⟨by decide, rfl⟩))) | assumption | (exact (hc_far (by omega)).trans (by assumption))) (by omega) ?_
          have h3' : (cvL p a l1).AI 2 3 3 m = Int32.ofNat y := by rw [cvL_AI]; exact h3
          rw [h3', of_succ]
          refine IV y (t + 1) _ l1 _ (by omega) (by omega) hyk (fun r2 l2 c2 => ?_)
          refine b_92_231 _ _ _ ?_
          rw [show a.AI 2 3 0 m = Int32.ofNat (cz_k.getD 30 0) from h0]
          refine cv_cmp (op := 30) (by decide) ?_
          have h01 : (if mv_cmp 30 r1 r2 = true then (1 : Int32) else 0) = 0 ∨ (if mv_cmp 30 r1 r2 = true then (1 : Int32) else 0) = 1 := by split <;> simp
          refine b_92_234 _ _ _ (by first | assumption | (exact mL_get (by decide)) | (rw [mL_len]; decide) | (simp only [mL_set]; exact mL_get (by decide)) | (simp only [mL_set, mL_len]; decide) | (exact va_eq) | (exact (va_ne (by omega)).trans (by assumption)) | (exact (va_ne (by omega)).trans va_eq) | (exact (va_ne (by omega)).trans ((va_ne (by omega)).trans (by assumption))) | (exact (va_ne (by omega)).trans ((va_ne (by omega)).trans ((va_ne (by omega)).trans (by assumption)))) | rfl | (exact Or.inl rfl) | (exact Or.inr rfl) | omega | (exact Nat.le_of_ble_eq_true rfl) | decide | (exact ⟨by decide, rfl, by decide⟩)) ?_
          refine K _ _ h01 (cvo_2 (F := fun u w => some (mv_cmp 30 u w)) c1 c2 (fun e => e) (fun u w _ _ e1 e2 hl => ?_))
          subst e1 e2
          rw [hl]
          exact ⟨rfl, rfl⟩
        · intro z21
          first | (exact absurd z21 (by decide)) | (exact absurd (by decide) z21) | (exact absurd rfl z21) | (exact absurd z21 (of_nn (by omega))) | (exact absurd (of_np (by omega)) z21) | omega
      · exact absurd hm h
theorem cv_t31 {A B D x y z : Nat} {v : Int64} {q : Nat × Nat} (hn : 575 ≤ n) (hR : cRk a p N tb S lo hi) (hk : k ≤ 99) (ht : t + (k + 1) ≤ 101) (hm : m < N) (IV : cIV n sl f0 a p N tb S lo hi k) (IT : cIT n sl f0 a p N tb S lo hi k) (he : k ≤ e) (hcm : tb m = (31, A, B, D, v, x, y, z, q)) (hok : mz_ok tb N (k + 1) 2 m) (K : ∀ r l', (r = 0 ∨ r = 1) → cvo cvt (mv_t S (mv_E tb S lo hi k) (31, A, B, D, v, x, y, z, q)) false r l' → Q (.inl (some (.int r))) (n, sl, hc (cvL p a l') f0)) : mi_W (e + 4) 92 0 (mi_en 6 [.ref p, .int (Int32.ofNat m), .int (Int32.ofNat t)]) [] (n, sl, hc a f0) Q := by
  obtain ⟨hp, hS, hlo, hhi, hfl, ⟨hN, hN8⟩, hrg, hSo, hto⟩ := hR
  have hp5 := hp.1
  have hq := hS.1
  obtain ⟨-, -, had, hx, -, hy, hz⟩ := hok
  have hrow := (hrg m (Nat.zero_le _) hm).1
  rw [hcm] at had hx hy hz hrow
  unfold mz_ad at had
  dsimp only at had hx hy hz
  have hq5 := hq.1
  have hix := ix_of (w := m) (m := 800) (by omega) (by omega)
  have h0 : a.AI 2 3 0 m = 32 := hrow.1 0 (by decide) (by decide)
  have hxk : mz_ok tb N k 1 x := (hx (by decide)).2
  have h1 : a.AI 2 3 1 m = Int32.ofNat x := hrow.1 1 (by decide) (by decide)
  have hyk : mz_ok tb N k 1 y := (hy (by decide)).2
  have h3 : a.AI 2 3 3 m = Int32.ofNat y := hrow.1 3 (by decide) (by decide)
  refine b_92_0 _ _ _ (by first | (exact hc_o (by first | assumption | (exact ⟨by decide, rfl⟩))) | assumption | (exact (hc_far (by omega)).trans (by assumption))) (by omega) (by first | rfl | assumption) ?_ ?_
  · intro z0
    exact absurd hfl z0
  · intro z0
    refine b_92_7 _ _ _ ?_ ?_
    · intro z7
      exact absurd ((i_lt (a := 100) rfl rfl (by omega) (by omega)).mp z7) (by omega)
    · intro z7
      refine b_92_13 _ _ _ (by first | (exact hc_o (by first | assumption | (exact ⟨by decide, rfl⟩))) | assumption | (exact (hc_far (by omega)).trans (by assumption))) (by omega) (by first | rfl | assumption) (by first | (exact hc_o (by first | assumption | (exact ⟨by decide, rfl⟩))) | assumption | (exact (hc_far (by omega)).trans (by assumption))) (by omega) ?_
      refine cv_has hn hN hN8 (by omega) (fun _ => ?_) (fun h => ?_)
      · refine b_92_21 _ _ _ ?_ ?_
        · intro z21
          refine b_92_26 (t21 := 198) _ _ _ _ _ _ (by first | (exact hc_o (by first | assumption | (exact ⟨by decide, rfl⟩))) | assumption | (exact (hc_far (by omega)).trans (by assumption))) (by omega) (by first | rfl | assumption) (by first | (exact hc_o (by first | assumption | (exact ⟨by decide, rfl⟩))) | assumption | (exact (hc_far (by omega)).trans (by assumption))) (by omega) (by first | rfl | assumption) (by first | (exact hc_ai (by omega) (by first | assumption | (exact (ht9 (by assumption)).2.1) | (exact (ht9 (by assumption)).2.2.1) | (exact (ht9 (by assumption)).2.2.2) | rfl) (by decide)) | assumption | (exact (hc_far (by omega)).trans (by assumption))) (Or.inl (by omega)) (by first | assumption | (exact ix_of (by omega) (by omega)) | (exact ⟨by decide, rfl, by decide⟩)) (by rw [h0]; decide +kernel) ?_
          refine b_92_198 _ _ _ _ _ _ (by first | (exact hc_o (by first | assumption | (exact ⟨by decide, rfl⟩))) | assumption | (exact (hc_far (by omega)).trans (by assumption))) (by omega) (by first | rfl | assumption) (by first | (exact hc_o (by first | assumption | (exact ⟨by decide, rfl⟩))) | assumption | (exact (hc_far (by omega)).trans (by assumption))) (by omega) (by first | rfl | assumption) (by first | (exact hc_ai (by omega) (by first | assumption | (exact (ht9 (by assumption)).2.1) | (exact (ht9 (by assumption)).2.2.1) | (exact (ht9 (by assumption)).2.2.2) | rfl) (by decide)) | assumption | (exact (hc_far (by omega)).trans (by assumption))) (Or.inl (by omega)) (by first | assumption | (exact ix_of (by omega) (by omega)) | (exact ⟨by decide, rfl, by decide⟩)) (by first | (exact hc_o (by first | assumption | (exact ⟨by decide, rfl⟩))) | assumption | (exact (hc_far (by omega)).trans (by assumption))) (by omega) ?_
          rw [h1, of_succ]
          refine IV x (t + 1) _ false _ (by omega) (by omega) hxk (fun r1 l1 c1 => ?_)
          refine b_92_215 _ _ _ _ _ _ (by first | (exact hc_o (by first | assumption | (exact ⟨by decide, rfl⟩))) | assumption | (exact (hc_far (by omega)).trans (by assumption))) (by omega) (by first | rfl | assumption) (by first | (exact hc_o (by first | assumption | (exact ⟨by decide, rfl⟩))) | assumption | (exact (hc_far (by omega)).trans (by assumption))) (by omega) (by first | rfl | assumption) (by first | (exact hc_ai (by omega) (by first | assumption | (exact (ht9 (by assumption)).2.1) | (exact (ht9 (by assumption)).2.2.1) | (exact (ht9 (by assumption)).2.2.2) | rfl) (by decide)) | assumption | (exact (hc_far (by omega)).trans (by assumption))) (Or.inl (by omega)) (by first | assumption | (exact ix_of (by omega) (by omega)) | (exact ⟨by decide, rfl, by decide⟩)) (by first | (exact hc_o (by first | assumption | (exact ⟨by decide, rfl⟩))) | assumption | (exact (hc_far (by omega)).trans (by assumption))) (by omega) ?_
          have h3' : (cvL p a l1).AI 2 3 3 m = Int32.ofNat y := by rw [cvL_AI]; exact h3
          rw [h3', of_succ]
          refine IV y (t + 1) _ l1 _ (by omega) (by omega) hyk (fun r2 l2 c2 => ?_)
          refine b_92_231 _ _ _ ?_
          rw [show a.AI 2 3 0 m = Int32.ofNat (cz_k.getD 31 0) from h0]
          refine cv_cmp (op := 31) (by decide) ?_
          have h01 : (if mv_cmp 31 r1 r2 = true then (1 : Int32) else 0) = 0 ∨ (if mv_cmp 31 r1 r2 = true then (1 : Int32) else 0) = 1 := by split <;> simp
          refine b_92_234 _ _ _ (by first | assumption | (exact mL_get (by decide)) | (rw [mL_len]; decide) | (simp only [mL_set]; exact mL_get (by decide)) | (simp only [mL_set, mL_len]; decide) | (exact va_eq) | (exact (va_ne (by omega)).trans (by assumption)) | (exact (va_ne (by omega)).trans va_eq) | (exact (va_ne (by omega)).trans ((va_ne (by omega)).trans (by assumption))) | (exact (va_ne (by omega)).trans ((va_ne (by omega)).trans ((va_ne (by omega)).trans (by assumption)))) | rfl | (exact Or.inl rfl) | (exact Or.inr rfl) | omega | (exact Nat.le_of_ble_eq_true rfl) | decide | (exact ⟨by decide, rfl, by decide⟩)) ?_
          refine K _ _ h01 (cvo_2 (F := fun u w => some (mv_cmp 31 u w)) c1 c2 (fun e => e) (fun u w _ _ e1 e2 hl => ?_))
          subst e1 e2
          rw [hl]
          exact ⟨rfl, rfl⟩
        · intro z21
          first | (exact absurd z21 (by decide)) | (exact absurd (by decide) z21) | (exact absurd rfl z21) | (exact absurd z21 (of_nn (by omega))) | (exact absurd (of_np (by omega)) z21) | omega
      · exact absurd hm h
theorem cv_t32 {A B D x y z : Nat} {v : Int64} {q : Nat × Nat} (hn : 575 ≤ n) (hR : cRk a p N tb S lo hi) (hk : k ≤ 99) (ht : t + (k + 1) ≤ 101) (hm : m < N) (IV : cIV n sl f0 a p N tb S lo hi k) (IT : cIT n sl f0 a p N tb S lo hi k) (he : k ≤ e) (hcm : tb m = (32, A, B, D, v, x, y, z, q)) (hok : mz_ok tb N (k + 1) 2 m) (K : ∀ r l', (r = 0 ∨ r = 1) → cvo cvt (mv_t S (mv_E tb S lo hi k) (32, A, B, D, v, x, y, z, q)) false r l' → Q (.inl (some (.int r))) (n, sl, hc (cvL p a l') f0)) : mi_W (e + 4) 92 0 (mi_en 6 [.ref p, .int (Int32.ofNat m), .int (Int32.ofNat t)]) [] (n, sl, hc a f0) Q := by
  obtain ⟨hp, hS, hlo, hhi, hfl, ⟨hN, hN8⟩, hrg, hSo, hto⟩ := hR
  have hp5 := hp.1
  have hq := hS.1
  obtain ⟨-, -, had, hx, -, hy, hz⟩ := hok
  have hrow := (hrg m (Nat.zero_le _) hm).1
  rw [hcm] at had hx hy hz hrow
  unfold mz_ad at had
  dsimp only at had hx hy hz
  have hq5 := hq.1
  have hix := ix_of (w := m) (m := 800) (by omega) (by omega)
  have h0 : a.AI 2 3 0 m = 36 := hrow.1 0 (by decide) (by decide)
  have hxk : mz_ok tb N k 1 x := (hx (by decide)).2
  have h1 : a.AI 2 3 1 m = Int32.ofNat x := hrow.1 1 (by decide) (by decide)
  have hyk : mz_ok tb N k 1 y := (hy (by decide)).2
  have h3 : a.AI 2 3 3 m = Int32.ofNat y := hrow.1 3 (by decide) (by decide)
  refine b_92_0 _ _ _ (by first | (exact hc_o (by first | assumption | (exact ⟨by decide, rfl⟩))) | assumption | (exact (hc_far (by omega)).trans (by assumption))) (by omega) (by first | rfl | assumption) ?_ ?_
  · intro z0
    exact absurd hfl z0
  · intro z0
    refine b_92_7 _ _ _ ?_ ?_
    · intro z7
      exact absurd ((i_lt (a := 100) rfl rfl (by omega) (by omega)).mp z7) (by omega)
    · intro z7
      refine b_92_13 _ _ _ (by first | (exact hc_o (by first | assumption | (exact ⟨by decide, rfl⟩))) | assumption | (exact (hc_far (by omega)).trans (by assumption))) (by omega) (by first | rfl | assumption) (by first | (exact hc_o (by first | assumption | (exact ⟨by decide, rfl⟩))) | assumption | (exact (hc_far (by omega)).trans (by assumption))) (by omega) ?_
      refine cv_has hn hN hN8 (by omega) (fun _ => ?_) (fun h => ?_)
      · refine b_92_21 _ _ _ ?_ ?_
        · intro z21
          refine b_92_26 (t21 := 198) _ _ _ _ _ _ (by first | (exact hc_o (by first | assumption | (exact ⟨by decide, rfl⟩))) | assumption | (exact (hc_far (by omega)).trans (by assumption))) (by omega) (by first | rfl | assumption) (by first | (exact hc_o (by first | assumption | (exact ⟨by decide, rfl⟩))) | assumption | (exact (hc_far (by omega)).trans (by assumption))) (by omega) (by first | rfl | assumption) (by first | (exact hc_ai (by omega) (by first | assumption | (exact (ht9 (by assumption)).2.1) | (exact (ht9 (by assumption)).2.2.1) | (exact (ht9 (by assumption)).2.2.2) | rfl) (by decide)) | assumption | (exact (hc_far (by omega)).trans (by assumption))) (Or.inl (by omega)) (by first | assumption | (exact ix_of (by omega) (by omega)) | (exact ⟨by decide, rfl, by decide⟩)) (by rw [h0]; decide +kernel) ?_
          refine b_92_198 _ _ _ _ _ _ (by first | (exact hc_o (by first | assumption | (exact ⟨by decide, rfl⟩))) | assumption | (exact (hc_far (by omega)).trans (by assumption))) (by omega) (by first | rfl | assumption) (by first | (exact hc_o (by first | assumption | (exact ⟨by decide, rfl⟩))) | assumption | (exact (hc_far (by omega)).trans (by assumption))) (by omega) (by first | rfl | assumption) (by first | (exact hc_ai (by omega) (by first | assumption | (exact (ht9 (by assumption)).2.1) | (exact (ht9 (by assumption)).2.2.1) | (exact (ht9 (by assumption)).2.2.2) | rfl) (by decide)) | assumption | (exact (hc_far (by omega)).trans (by assumption))) (Or.inl (by omega)) (by first | assumption | (exact ix_of (by omega) (by omega)) | (exact ⟨by decide, rfl, by decide⟩)) (by first | (exact hc_o (by first | assumption | (exact ⟨by decide, rfl⟩))) | assumption | (exact (hc_far (by omega)).trans (by assumption))) (by omega) ?_
          rw [h1, of_succ]
          refine IV x (t + 1) _ false _ (by omega) (by omega) hxk (fun r1 l1 c1 => ?_)
          refine b_92_215 _ _ _ _ _ _ (by first | (exact hc_o (by first | assumption | (exact ⟨by decide, rfl⟩))) | assumption | (exact (hc_far (by omega)).trans (by assumption))) (by omega) (by first | rfl | assumption) (by first | (exact hc_o (by first | assumption | (exact ⟨by decide, rfl⟩))) | assumption | (exact (hc_far (by omega)).trans (by assumption))) (by omega) (by first | rfl | assumption) (by first | (exact hc_ai (by omega) (by first | assumption | (exact (ht9 (by assumption)).2.1) | (exact (ht9 (by assumption)).2.2.1) | (exact (ht9 (by assumption)).2.2.2) | rfl) (by decide)) | assumption | (exact (hc_far (by omega)).trans (by assumption))) (Or.inl (by omega)) (by first | assumption | (exact ix_of (by omega) (by omega)) | (exact ⟨by decide, rfl, by decide⟩)) (by first | (exact hc_o (by first | assumption | (exact ⟨by decide, rfl⟩))) | assumption | (exact (hc_far (by omega)).trans (by assumption))) (by omega) ?_
          have h3' : (cvL p a l1).AI 2 3 3 m = Int32.ofNat y := by rw [cvL_AI]; exact h3
          rw [h3', of_succ]
          refine IV y (t + 1) _ l1 _ (by omega) (by omega) hyk (fun r2 l2 c2 => ?_)
          refine b_92_231 _ _ _ ?_
          rw [show a.AI 2 3 0 m = Int32.ofNat (cz_k.getD 32 0) from h0]
          refine cv_cmp (op := 32) (by decide) ?_
          have h01 : (if mv_cmp 32 r1 r2 = true then (1 : Int32) else 0) = 0 ∨ (if mv_cmp 32 r1 r2 = true then (1 : Int32) else 0) = 1 := by split <;> simp
          refine b_92_234 _ _ _ (by first | assumption | (exact mL_get (by decide)) | (rw [mL_len]; decide) | (simp only [mL_set]; exact mL_get (by decide)) | (simp only [mL_set, mL_len]; decide) | (exact va_eq) | (exact (va_ne (by omega)).trans (by assumption)) | (exact (va_ne (by omega)).trans va_eq) | (exact (va_ne (by omega)).trans ((va_ne (by omega)).trans (by assumption))) | (exact (va_ne (by omega)).trans ((va_ne (by omega)).trans ((va_ne (by omega)).trans (by assumption)))) | rfl | (exact Or.inl rfl) | (exact Or.inr rfl) | omega | (exact Nat.le_of_ble_eq_true rfl) | decide | (exact ⟨by decide, rfl, by decide⟩)) ?_
          refine K _ _ h01 (cvo_2 (F := fun u w => some (mv_cmp 32 u w)) c1 c2 (fun e => e) (fun u w _ _ e1 e2 hl => ?_))
          subst e1 e2
          rw [hl]
          exact ⟨rfl, rfl⟩
        · intro z21
          first | (exact absurd z21 (by decide)) | (exact absurd (by decide) z21) | (exact absurd rfl z21) | (exact absurd z21 (of_nn (by omega))) | (exact absurd (of_np (by omega)) z21) | omega
      · exact absurd hm h
theorem cv_E (hn : 575 ≤ n) (hR : cRk a p N tb S lo hi) : ∀ k, k ≤ 100 → cIV n sl f0 a p N tb S lo hi k ∧ cIT n sl f0 a p N tb S lo hi k := by
  intro k
  induction k with
  | zero => exact fun _ => ⟨fun _ _ _ _ _ _ _ h _ => h.elim, fun _ _ _ _ _ _ _ h _ => h.elim⟩
  | succ k ih =>
    intro hk
    obtain ⟨IV, IT⟩ := ih (by omega)
    refine ⟨?_, ?_⟩
    · intro m t d l Q hd ht hok K
      obtain ⟨e, rfl⟩ : ∃ e', d = e' + 4 := ⟨d - 4, by omega⟩
      have hm : m < N := hok.1
      have hso := hok.2.1
      have h33 := mz_so33 hso (by decide)
      cases l with
      | true => exact cv_vl hn hR.1 (K 0 true rfl)
      | false =>
        have K' : ∀ r l', cvo id (mv_v S lo hi (mv_E tb S lo hi k) (tb m)) false r l' → Q (.inl (some (.long r))) (n, sl, hc (cvL p a l') f0) := K
        rcases hcm : tb m with ⟨op, A, B, D, v, x, y, z, q⟩
        rw [hcm] at K' hso h33
        have ho := mz_so1 ⟨op, h33⟩ hso
        dsimp only at ho
        rcases ho with rfl | rfl | rfl | rfl | rfl | rfl | rfl | rfl | rfl | rfl | rfl | rfl
        · exact cv_v10 hn hR (by omega) ht hm IV IT (by omega) hcm hok K'
        · exact cv_v11 hn hR (by omega) ht hm IV IT (by omega) hcm hok K'
        · exact cv_v12 hn hR (by omega) ht hm IV IT (by omega) hcm hok K'
        · exact cv_v13 hn hR (by omega) ht hm IV IT (by omega) hcm hok K'
        · exact cv_v14 hn hR (by omega) ht hm IV IT (by omega) hcm hok K'
        · exact cv_v15 hn hR (by omega) ht hm IV IT (by omega) hcm hok K'
        · exact cv_v16 hn hR (by omega) ht hm IV IT (by omega) hcm hok K'
        · exact cv_v17 hn hR (by omega) ht hm IV IT (by omega) hcm hok K'
        · exact cv_v18 hn hR (by omega) ht hm IV IT (by omega) hcm hok K'
        · exact cv_v19 hn hR (by omega) ht hm IV IT (by omega) hcm hok K'
        · exact cv_v20 hn hR (by omega) ht hm IV IT (by omega) hcm hok K'
        · exact cv_v21 hn hR (by omega) ht hm IV IT (by omega) hcm hok K'
    · intro m t d l Q hd ht hok K
      obtain ⟨e, rfl⟩ : ∃ e', d = e' + 4 := ⟨d - 4, by omega⟩
      have hm : m < N := hok.1
      have hso := hok.2.1
      have h33 := mz_so33 hso (by decide)
      cases l with
      | true => exact cv_tl hn hR.1 (K 0 true (Or.inl rfl) rfl)
      | false =>
        have K' : ∀ r l', (r = 0 ∨ r = 1) → cvo cvt (mv_t S (mv_E tb S lo hi k) (tb m)) false r l' → Q (.inl (some (.int r))) (n, sl, hc (cvL p a l') f0) := K
        rcases hcm : tb m with ⟨op, A, B, D, v, x, y, z, q⟩
        rw [hcm] at K' hso h33
        have ho := mz_so2 ⟨op, h33⟩ hso
        dsimp only at ho
        rcases ho with rfl | rfl | rfl | rfl | rfl | rfl | rfl | rfl | rfl | rfl | rfl
        · exact cv_t22 hn hR (by omega) ht hm IV IT (by omega) hcm hok K'
        · exact cv_t23 hn hR (by omega) ht hm IV IT (by omega) hcm hok K'
        · exact cv_t24 hn hR (by omega) ht hm IV IT (by omega) hcm hok K'
        · exact cv_t25 hn hR (by omega) ht hm IV IT (by omega) hcm hok K'
        · exact cv_t26 hn hR (by omega) ht hm IV IT (by omega) hcm hok K'
        · exact cv_t27 hn hR (by omega) ht hm IV IT (by omega) hcm hok K'
        · exact cv_t28 hn hR (by omega) ht hm IV IT (by omega) hcm hok K'
        · exact cv_t29 hn hR (by omega) ht hm IV IT (by omega) hcm hok K'
        · exact cv_t30 hn hR (by omega) ht hm IV IT (by omega) hcm hok K'
        · exact cv_t31 hn hR (by omega) ht hm IV IT (by omega) hcm hok K'
        · exact cv_t32 hn hR (by omega) ht hm IV IT (by omega) hcm hok K'
end
