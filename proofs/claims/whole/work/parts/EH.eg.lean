/-! the analyser: what a step leads to; numbers of a choice -/
section
variable {N m k t j i many M F : Nat} {tb : Nat → ms_N} {v u : Int64} {Z Z' : mv_Z} {bd : Nat → Int64 × Int64} {I : mv_I} {S : mv_S}
theorem mv_ti_S {w : Nat → Int64} : ((mv_z0 S w).ti v).S.at = S.at ∧ ((mv_z0 S w).ti v).S.tm = v := ⟨rfl, rfl⟩
theorem ma_tx_ok (ht : mv_tok tb) (hbd : ∀ j, mv_in (bd j).1 ∧ mv_in (bd j).2) (hS : mv_ok S) (hk : mz_ok tb N k 0 S.at) (h100 : k ≤ 100) (hb : mo_NB tb bd S.at) (hm : many ≤ 1) (h : ma_tx tb bd many I u S = .ok Z') : ∃ k', mv_J tb N k' Z' ∧ (many = 1 → k' < k) ∧ k' ≤ k ∧ mo_NB tb bd Z'.S.at ∧ Z'.S.tm = u ∧ mv_step tb u u Z' = .ok none ∧ ma_rd tb Z'.S = false := by
  unfold ma_tx at h
  by_cases h2 : u < S.tm
  · unfold mv_run at h
    rw [if_neg (Int64.lt_irrefl), if_pos (show u < (mv_z0 S (fun _ => 0)).S.tm from h2)] at h
    cases h
  · rw [mv_run_ok (Z := mv_z0 S (fun _ => 0)) Int64.lt_irrefl h2] at h
    have elo : mv_lo u (mv_z0 S (fun _ => 0)).S.tm = u := if_neg h2
    rw [elo] at h
    unfold mv_r2 at h
    have hJ0 : mv_J tb N k ((mv_z0 S (fun _ => 0)).ti u) := mv_J0 hS hk h100
    cases hr : mv_red tb u u 148 false ((mv_z0 S (fun _ => 0)).ti u) with
    | error e =>
      rw [hr] at h
      cases h
    | ok o =>
      obtain ⟨b1, Z1⟩ := o
      rw [hr] at h
      dsimp only at h
      split at h
      · cases h
      · obtain ⟨k1, J1, l1, d1⟩ := mv_red_J ht 148 false k _ hJ0 hr
        have he1 := mv_red_e ht 148 false k _ hJ0 (by have := hJ0.2.2.2.2.1; omega) hr
        obtain ⟨a1, a2⟩ := mv_red_at (bd := bd) 148 false _ hJ0.1 ht (mz_ok_le h100 hk) hb hr
        have hkk : k1 ≤ k := by rcases d1 with d | ⟨d, -⟩ <;> omega
        by_cases hm1 : many = 1
        · subst hm1
          unfold mv_ins at h
          cases h1 : mv_take tb bd false u u I Z1 with
          | error e =>
            rw [h1] at h
            cases h
          | ok Z2 =>
            rw [h1] at h
            dsimp only at h
            obtain ⟨k2, J2, l2⟩ := mv_take_J J1 hbd h1
            obtain ⟨c1, c2⟩ := mv_take_at a2 h1
            cases h3 : mv_red tb u u 148 false Z2 with
            | error e =>
              rw [h3] at h
              cases h
            | ok o =>
              obtain ⟨b3, Z3⟩ := o
              rw [h3] at h
              have h : (Except.ok Z3 : Except Nat mv_Z) = .ok Z' := h
              cases h
              obtain ⟨k3, J3, l3, d3⟩ := mv_red_J ht 148 false k2 _ J2 h3
              have he3 := mv_red_e ht 148 false k2 _ J2 (by have := J2.2.2.2.2.1; omega) h3
              obtain ⟨g1, g2⟩ := mv_red_at (bd := bd) 148 false _ J2.1 ht (mz_ok_le J2.2.2.2.1 J2.2.2.1) c2 h3
              have hk3 : k3 ≤ k2 := by rcases d3 with d | ⟨d, -⟩ <;> omega
              have htm : Z'.S.tm = u := g1.trans (c1.trans a1)
              exact ⟨k3, J3, fun _ => by omega, by omega, g2, htm, he3, ma_rd_n (mz_ok_le J3.2.2.2.1 J3.2.2.1) (by rw [htm]; exact he3)⟩
        · have hm0 : many = 0 := by omega
          subst hm0
          have h : (Except.ok Z1 : Except Nat mv_Z) = .ok Z' := h
          cases h
          have htm : Z'.S.tm = u := a1
          exact ⟨k1, J1, fun h => absurd h (by decide), hkk, a2, htm, he1, ma_rd_n (mz_ok_le J1.2.2.2.1 J1.2.2.1) (by rw [htm]; exact he1)⟩
theorem ma_ou_ok {s : ma_P} (ht : mv_tok tb) (hbd : ∀ j, mv_in (bd j).1 ∧ mv_in (bd j).2) (hS : mv_ok S) (hk : mz_ok tb N k 0 S.at) (h100 : k ≤ 100) (hb : mo_NB tb bd S.at) (h : ma_ou tb bd S s = .ok Z') : ∃ k', mv_J tb N k' Z' ∧ (¬ s.2.2.1 = 0 → k' < k) ∧ k' ≤ k ∧ mo_NB tb bd Z'.S.at ∧ ma_rd tb Z'.S = false := by
  unfold ma_ou at h
  split at h
  · cases h
  · obtain ⟨k', a1, a2, a3, a4, -, -, a7⟩ := ma_tx_ok ht hbd hS hk h100 hb (by split <;> omega) h
    exact ⟨k', a1, fun hs => a2 (if_neg hs), a3, a4, a7⟩
theorem ma_ct_i {p : Int64 × Int64} (h : ms_bo p) : (p.2 - p.1 + 1 : Int64).toInt = (ma_ct p : Int) ∧ 1 ≤ ma_ct p ∧ ma_ct p ≤ 200000000000000001 := by
  obtain ⟨h1, h2, h3⟩ := h
  have e1 : (p.2 - p.1 : Int64).toInt = p.2.toInt - p.1.toInt := by
    rw [Int64.toInt_sub]
    exact bm64 (by omega) (by omega)
  have o1 : (1 : Int64).toInt = 1 := rfl
  have e2 : (p.2 - p.1 + 1 : Int64).toInt = p.2.toInt - p.1.toInt + 1 := by
    rw [Int64.toInt_add, e1, o1]
    exact bm64 (by omega) (by omega)
  unfold ma_ct
  rw [e2]
  omega
theorem ofN_i {r : Nat} (h : r < 9223372036854775808) : (Int64.ofNat r).toInt = (r : Int) := by
  rw [Int64.toInt_ofNat']
  exact bm64 (by omega) (by omega)
theorem of_17a : ∀ r : Fin 18, (Int64.ofNat r.1).toInt32 = Int32.ofNat r.1 ∧ (Int32.ofNat r.1).toInt64 = Int64.ofNat r.1 := by decide +kernel
end
section
variable {d e n sl N : Nat} {a : mh_A} {f0 : Nat → mi_C} {Q : (Option Value ⊕ Nat) → mi_H → Prop} {p q k m BN : Nat} {tb : Nat → ms_N} {bd : Nat → Int64 × Int64}
theorem ct_ntl {A B D x y z F M : Nat} {u : Int64} (hn : 575 ≤ n) (hm : m < 800) (hb : cBd a BN bd tb) (hbo : ∀ j, ms_bo (bd j)) (hcm : tb m = (8, A, B, D, u, x, y, z, M, F)) (hrow : cRow a (tb m) m) : ∀ (t j acc : Nat) (l3 : Int64), j + t = F + M → l3.toInt = (acc : Int) → acc ≤ 300000000000000000 → Q (.inl (some (.int (Int32.ofNat (if acc + ma_tt bd t j ≤ 16 then acc + ma_tt bd t j else 17))))) (n, sl, hc a f0) → mi_W d 123 10 [some (.ref 3), some (.int (Int32.ofNat m)), some (.long l3), none, some (.int (Int32.ofNat (2 * j)))] [] (n, sl, hc a f0) Q := by
  have hFM := hb.2.2 m (by rw [hcm])
  rw [hcm] at hFM hrow
  dsimp only at hFM
  have hB := hb.1
  have h6 : a.AI 2 3 6 m = Int32.ofNat (2 * (F + M)) := hrow.1 6 (by decide) (by decide)
  have hix := ix_of (w := m) (m := 800) (by omega) (by omega)
  have s16 : (16 : Int64).toInt = 16 := rfl
  intro t
  induction t with
  | zero =>
    intro j acc l3 hj hl hacc K
    have e1 : Int32.ofNat (2 * j) + 1 = Int32.ofNat (2 * j + 1) := of_succ _
    have ett : acc + ma_tt bd 0 j = acc := rfl
    rw [ett] at K
    refine b_123_10 _ _ _ ?_ ?_
    · intro z10
      exact absurd z10 (of_nn (by omega))
    · intro z10
      refine b_123_15 _ _ _ _ _ _ (by first | (exact hc_o (by first | assumption | (exact ⟨by decide, rfl⟩))) | assumption | (exact (hc_far (by omega)).trans (by assumption))) (by omega) (by first | rfl | assumption) (by first | (exact hc_ai (by omega) (by first | assumption | (exact (ht9 (by assumption)).2.1) | (exact (ht9 (by assumption)).2.2.1) | (exact (ht9 (by assumption)).2.2.2) | rfl) (by decide)) | assumption | (exact (hc_far (by omega)).trans (by assumption))) (Or.inl (by omega)) (by first | assumption | (exact ix_of (by omega) (by omega)) | (exact ⟨by decide, rfl, by decide⟩)) ?_ ?_
      · intro z15
        refine b_123_64 _ _ _ ?_ ?_
        · intro z64
          refine b_123_77 _ _ _ ?_
          refine b_123_79 _ _ _ ?_
          first | (have hgt := Int64.lt_iff_toInt_lt.mp (lg_gt.mp z64); rw [hl, s16] at hgt; rw [if_neg (by omega)] at K; exact K) | (have hle : ¬ 16 < (acc : Int) := fun h => z64 (lg_gt.mpr (Int64.lt_iff_toInt_lt.mpr (by rw [hl, s16]; exact h))); rw [if_pos (by omega)] at K; have el : l3 = Int64.ofNat acc := Int64.toInt_inj.mp (hl.trans (ofN_i (by omega)).symm); rw [el, (of_17a ⟨acc, by omega⟩).1]; exact K)
        · intro z64
          refine b_123_72 _ _ _ ?_
          refine b_123_79 _ _ _ ?_
          first | (have hgt := Int64.lt_iff_toInt_lt.mp (lg_gt.mp z64); rw [hl, s16] at hgt; rw [if_neg (by omega)] at K; exact K) | (have hle : ¬ 16 < (acc : Int) := fun h => z64 (lg_gt.mpr (Int64.lt_iff_toInt_lt.mpr (by rw [hl, s16]; exact h))); rw [if_pos (by omega)] at K; have el : l3 = Int64.ofNat acc := Int64.toInt_inj.mp (hl.trans (ofN_i (by omega)).symm); rw [el, (of_17a ⟨acc, by omega⟩).1]; exact K)
      · intro z15
        exact absurd ((i_le h6 e1 (by omega) (by omega)).mpr (by omega)) z15
  | succ t ih =>
    intro j acc l3 hj hl hacc K
    have e1 : Int32.ofNat (2 * j) + 1 = Int32.ofNat (2 * j + 1) := of_succ _
    have e2 : Int32.ofNat (2 * j) + 2 = Int32.ofNat (2 * (j + 1)) := of_add' (2 * j) 2
    have hix1 := ix_of (w := 2 * j) (m := 4096) (by omega) (by omega)
    have hix2 : mi_ix (Int32.ofNat (2 * j) + 1) 4096 (2 * j + 1) := by rw [e1]; exact ix_of (by omega) (by omega)
    obtain ⟨b1, b2⟩ := hb.2.1 j (by omega)
    obtain ⟨c1, c2, c3⟩ := ma_ct_i (hbo j)
    have ett : ma_tt bd (t + 1) j = ma_ct (bd j) + ma_tt bd t (j + 1) := rfl
    rw [ett] at K
    by_cases h16 : 16 < acc
    · have hg : 0 < lg_cmp l3 16 := lg_gt.mpr (Int64.lt_iff_toInt_lt.mpr (by rw [hl, s16]; omega))
      rw [if_neg (by omega)] at K
      refine b_123_10 _ _ _ ?_ ?_
      · intro z10
        exact absurd z10 (of_nn (by omega))
      · intro z10
        refine b_123_15 _ _ _ _ _ _ (by first | (exact hc_o (by first | assumption | (exact ⟨by decide, rfl⟩))) | assumption | (exact (hc_far (by omega)).trans (by assumption))) (by omega) (by first | rfl | assumption) (by first | (exact hc_ai (by omega) (by first | assumption | (exact (ht9 (by assumption)).2.1) | (exact (ht9 (by assumption)).2.2.1) | (exact (ht9 (by assumption)).2.2.2) | rfl) (by decide)) | assumption | (exact (hc_far (by omega)).trans (by assumption))) (Or.inl (by omega)) (by first | assumption | (exact ix_of (by omega) (by omega)) | (exact ⟨by decide, rfl, by decide⟩)) ?_ ?_
        · intro z15
          exact absurd ((i_le h6 e1 (by omega) (by omega)).mp z15) (by omega)
        · intro z15
          refine b_123_28 _ _ _ ?_ ?_
          · intro z28
            refine b_123_64 _ _ _ ?_ ?_
            · intro z64
              refine b_123_77 _ _ _ ?_
              refine b_123_79 _ _ _ ?_
              exact K
            · intro z64
              exact absurd hg z64
          · intro z28
            exact absurd hg z28
    · have hg : ¬ 0 < lg_cmp l3 16 := fun h => h16 (by have := Int64.lt_iff_toInt_lt.mp (lg_gt.mp h); rw [hl, s16] at this; omega)
      have es : (l3 + ((bd j).2 - (bd j).1 + 1)).toInt = ((acc + ma_ct (bd j) : Nat) : Int) := by
        rw [Int64.toInt_add, hl, c1]
        exact bm64 (by omega) (by omega)
      rw [← Nat.add_assoc] at K
      refine b_123_10 _ _ _ ?_ ?_
      · intro z10
        exact absurd z10 (of_nn (by omega))
      · intro z10
        refine b_123_15 _ _ _ _ _ _ (by first | (exact hc_o (by first | assumption | (exact ⟨by decide, rfl⟩))) | assumption | (exact (hc_far (by omega)).trans (by assumption))) (by omega) (by first | rfl | assumption) (by first | (exact hc_ai (by omega) (by first | assumption | (exact (ht9 (by assumption)).2.1) | (exact (ht9 (by assumption)).2.2.1) | (exact (ht9 (by assumption)).2.2.2) | rfl) (by decide)) | assumption | (exact (hc_far (by omega)).trans (by assumption))) (Or.inl (by omega)) (by first | assumption | (exact ix_of (by omega) (by omega)) | (exact ⟨by decide, rfl, by decide⟩)) ?_ ?_
        · intro z15
          exact absurd ((i_le h6 e1 (by omega) (by omega)).mp z15) (by omega)
        · intro z15
          refine b_123_28 _ _ _ ?_ ?_
          · intro z28
            exact absurd z28 hg
          · intro z28
            refine b_123_36 _ _ _ _ _ _ _ _ _ (by first | (exact hc_o (by first | assumption | (exact ⟨by decide, rfl⟩))) | assumption | (exact (hc_far (by omega)).trans (by assumption))) (by omega) (by first | rfl | assumption) (by first | (exact hc_al (by omega) (by first | assumption | (exact (ht9 (by assumption)).2.1) | (exact (ht9 (by assumption)).2.2.1) | (exact (ht9 (by assumption)).2.2.2) | rfl)) | assumption | (exact (hc_far (by omega)).trans (by assumption))) (by omega) (by first | assumption | (exact ix_of (by omega) (by omega)) | (exact ⟨by decide, rfl, by decide⟩)) (by first | (exact hc_o (by first | assumption | (exact ⟨by decide, rfl⟩))) | assumption | (exact (hc_far (by omega)).trans (by assumption))) (by omega) (by first | rfl | assumption) (by first | (exact hc_al (by omega) (by first | assumption | (exact (ht9 (by assumption)).2.1) | (exact (ht9 (by assumption)).2.2.1) | (exact (ht9 (by assumption)).2.2.2) | rfl)) | assumption | (exact (hc_far (by omega)).trans (by assumption))) (by omega) (by first | assumption | (exact ix_of (by omega) (by omega)) | (exact ⟨by decide, rfl, by decide⟩)) ?_
            rw [b1, b2, e2]
            exact ih (j + 1) (acc + ma_ct (bd j)) _ (by omega) es (by omega) K
theorem ct_nt {A B D x y z F M : Nat} {u : Int64} (hn : 575 ≤ n) (hm : m < 800) (hb : cBd a BN bd tb) (hbo : ∀ j, ms_bo (bd j)) (hcm : tb m = (8, A, B, D, u, x, y, z, M, F)) (hrow : cRow a (tb m) m) (K : Q (.inl (some (.int (Int32.ofNat (if ma_tt bd M F ≤ 16 then ma_tt bd M F else 17))))) (n, sl, hc a f0)) : mi_W d 123 0 (mi_en 5 [.ref 3, .int (Int32.ofNat m)]) [] (n, sl, hc a f0) Q := by
  have hrow' := hrow
  rw [hcm] at hrow'
  have h5 : a.AI 2 3 5 m = Int32.ofNat (2 * F) := hrow'.1 5 (by decide) (by decide)
  have hix := ix_of (w := m) (m := 800) (by omega) (by omega)
  refine b_123_0 _ _ _ _ _ _ (by first | (exact hc_o (by first | assumption | (exact ⟨by decide, rfl⟩))) | assumption | (exact (hc_far (by omega)).trans (by assumption))) (by omega) (by first | rfl | assumption) (by first | (exact hc_ai (by omega) (by first | assumption | (exact (ht9 (by assumption)).2.1) | (exact (ht9 (by assumption)).2.2.1) | (exact (ht9 (by assumption)).2.2.2) | rfl) (by decide)) | assumption | (exact (hc_far (by omega)).trans (by assumption))) (Or.inl (by omega)) (by first | assumption | (exact ix_of (by omega) (by omega)) | (exact ⟨by decide, rfl, by decide⟩)) ?_
  rw [h5]
  exact ct_ntl hn hm hb hbo hcm hrow M F 0 0 (by omega) rfl (by omega) (by rw [Nat.zero_add]; exact K)
theorem ct_nrl {A B D x y z F M : Nat} {u : Int64} (hn : 575 ≤ n) (hm : m < 800) (hb : cBd a BN bd tb) (hbo : ∀ j, ms_bo (bd j)) (hcm : tb m = (8, A, B, D, u, x, y, z, M, F)) (hrow : cRow a (tb m) m) {l3 : Int32} : ∀ (t j r : Nat) (o6 o7 : Option Value), j + t = F + M → r < ma_tt bd t j → r ≤ 16 → Q (.inl (some (.long (ma_at bd t j r)))) (n, sl, hc a f0) → mi_W d 128 11 [some (.ref 3), some (.int (Int32.ofNat m)), some (.int l3), some (.long (Int64.ofNat r)), none, some (.int (Int32.ofNat (2 * j))), o6, o7] [] (n, sl, hc a f0) Q := by
  have hFM := hb.2.2 m (by rw [hcm])
  rw [hcm] at hFM hrow
  dsimp only at hFM
  have hB := hb.1
  have h6 : a.AI 2 3 6 m = Int32.ofNat (2 * (F + M)) := hrow.1 6 (by decide) (by decide)
  have hix := ix_of (w := m) (m := 800) (by omega) (by omega)
  intro t
  induction t with
  | zero =>
    intro j r o6 o7 hj hr
    exact absurd hr (Nat.not_lt_zero r)
  | succ t ih =>
    intro j r o6 o7 hj hr hr16 K
    have e1 : Int32.ofNat (2 * j) + 1 = Int32.ofNat (2 * j + 1) := of_succ _
    have e2 : Int32.ofNat (2 * j) + 2 = Int32.ofNat (2 * (j + 1)) := of_add' (2 * j) 2
    have hix1 := ix_of (w := 2 * j) (m := 4096) (by omega) (by omega)
    have hix2 : mi_ix (Int32.ofNat (2 * j) + 1) 4096 (2 * j + 1) := by rw [e1]; exact ix_of (by omega) (by omega)
    obtain ⟨b1, b2⟩ := hb.2.1 j (by omega)
    obtain ⟨c1, c2, c3⟩ := ma_ct_i (hbo j)
    have hri := ofN_i (r := r) (by omega)
    have eat : ma_at bd (t + 1) j r = if r < ma_ct (bd j) then (bd j).1 + Int64.ofNat r else ma_at bd t (j + 1) (r - ma_ct (bd j)) := rfl
    have ett : ma_tt bd (t + 1) j = ma_ct (bd j) + ma_tt bd t (j + 1) := rfl
    rw [eat] at K
    rw [ett] at hr
    by_cases hlt : r < ma_ct (bd j)
    · rw [if_pos hlt] at K
      refine b_128_11 _ _ _ ?_ ?_
      · intro z11
        exact absurd z11 (of_nn (by omega))
      · intro z11
        refine b_128_16 _ _ _ _ _ _ (by first | (exact hc_o (by first | assumption | (exact ⟨by decide, rfl⟩))) | assumption | (exact (hc_far (by omega)).trans (by assumption))) (by omega) (by first | rfl | assumption) (by first | (exact hc_ai (by omega) (by first | assumption | (exact (ht9 (by assumption)).2.1) | (exact (ht9 (by assumption)).2.2.1) | (exact (ht9 (by assumption)).2.2.2) | rfl) (by decide)) | assumption | (exact (hc_far (by omega)).trans (by assumption))) (Or.inl (by omega)) (by first | assumption | (exact ix_of (by omega) (by omega)) | (exact ⟨by decide, rfl, by decide⟩)) ?_ ?_
        · intro z16
          exact absurd ((i_le h6 e1 (by omega) (by omega)).mp z16) (by omega)
        · intro z16
          refine b_128_29 _ _ _ _ _ _ _ _ _ (by first | (exact hc_o (by first | assumption | (exact ⟨by decide, rfl⟩))) | assumption | (exact (hc_far (by omega)).trans (by assumption))) (by omega) (by first | rfl | assumption) (by first | (exact hc_al (by omega) (by first | assumption | (exact (ht9 (by assumption)).2.1) | (exact (ht9 (by assumption)).2.2.1) | (exact (ht9 (by assumption)).2.2.2) | rfl)) | assumption | (exact (hc_far (by omega)).trans (by assumption))) (by omega) (by first | assumption | (exact ix_of (by omega) (by omega)) | (exact ⟨by decide, rfl, by decide⟩)) (by first | (exact hc_o (by first | assumption | (exact ⟨by decide, rfl⟩))) | assumption | (exact (hc_far (by omega)).trans (by assumption))) (by omega) (by first | rfl | assumption) (by first | (exact hc_al (by omega) (by first | assumption | (exact (ht9 (by assumption)).2.1) | (exact (ht9 (by assumption)).2.2.1) | (exact (ht9 (by assumption)).2.2.2) | rfl)) | assumption | (exact (hc_far (by omega)).trans (by assumption))) (by omega) (by first | assumption | (exact ix_of (by omega) (by omega)) | (exact ⟨by decide, rfl, by decide⟩)) ?_ ?_
          · intro z29
            rw [b1, b2] at z29
            exact absurd (lg_ge.mp z29) (fun h => h (Int64.lt_iff_toInt_lt.mpr (by rw [hri, c1]; omega)))
          · intro z29
            refine b_128_57 _ _ _ _ _ _ (by first | (exact hc_o (by first | assumption | (exact ⟨by decide, rfl⟩))) | assumption | (exact (hc_far (by omega)).trans (by assumption))) (by omega) (by first | rfl | assumption) (by first | (exact hc_al (by omega) (by first | assumption | (exact (ht9 (by assumption)).2.1) | (exact (ht9 (by assumption)).2.2.1) | (exact (ht9 (by assumption)).2.2.2) | rfl)) | assumption | (exact (hc_far (by omega)).trans (by assumption))) (by omega) (by first | assumption | (exact ix_of (by omega) (by omega)) | (exact ⟨by decide, rfl, by decide⟩)) ?_
            rw [b1]
            exact K
    · rw [if_neg hlt] at K
      have ed : Int64.ofNat r - ((bd j).2 - (bd j).1 + 1) = Int64.ofNat (r - ma_ct (bd j)) := by
        apply Int64.toInt_inj.mp
        rw [Int64.toInt_sub, hri, c1, ofN_i (by omega)]
        rw [bm64 (by omega) (by omega)]
        omega
      refine b_128_11 _ _ _ ?_ ?_
      · intro z11
        exact absurd z11 (of_nn (by omega))
      · intro z11
        refine b_128_16 _ _ _ _ _ _ (by first | (exact hc_o (by first | assumption | (exact ⟨by decide, rfl⟩))) | assumption | (exact (hc_far (by omega)).trans (by assumption))) (by omega) (by first | rfl | assumption) (by first | (exact hc_ai (by omega) (by first | assumption | (exact (ht9 (by assumption)).2.1) | (exact (ht9 (by assumption)).2.2.1) | (exact (ht9 (by assumption)).2.2.2) | rfl) (by decide)) | assumption | (exact (hc_far (by omega)).trans (by assumption))) (Or.inl (by omega)) (by first | assumption | (exact ix_of (by omega) (by omega)) | (exact ⟨by decide, rfl, by decide⟩)) ?_ ?_
        · intro z16
          exact absurd ((i_le h6 e1 (by omega) (by omega)).mp z16) (by omega)
        · intro z16
          refine b_128_29 _ _ _ _ _ _ _ _ _ (by first | (exact hc_o (by first | assumption | (exact ⟨by decide, rfl⟩))) | assumption | (exact (hc_far (by omega)).trans (by assumption))) (by omega) (by first | rfl | assumption) (by first | (exact hc_al (by omega) (by first | assumption | (exact (ht9 (by assumption)).2.1) | (exact (ht9 (by assumption)).2.2.1) | (exact (ht9 (by assumption)).2.2.2) | rfl)) | assumption | (exact (hc_far (by omega)).trans (by assumption))) (by omega) (by first | assumption | (exact ix_of (by omega) (by omega)) | (exact ⟨by decide, rfl, by decide⟩)) (by first | (exact hc_o (by first | assumption | (exact ⟨by decide, rfl⟩))) | assumption | (exact (hc_far (by omega)).trans (by assumption))) (by omega) (by first | rfl | assumption) (by first | (exact hc_al (by omega) (by first | assumption | (exact (ht9 (by assumption)).2.1) | (exact (ht9 (by assumption)).2.2.1) | (exact (ht9 (by assumption)).2.2.2) | rfl)) | assumption | (exact (hc_far (by omega)).trans (by assumption))) (by omega) (by first | assumption | (exact ix_of (by omega) (by omega)) | (exact ⟨by decide, rfl, by decide⟩)) ?_ ?_
          · intro z29
            rw [b1, b2]
            refine b_128_67 _ _ _ ?_
            rw [ed, e2]
            exact ih (j + 1) (r - ma_ct (bd j)) _ _ (by omega) (by omega) (by omega) K
          · intro z29
            rw [b1, b2] at z29
            exact absurd (lg_ge.mpr (fun h => by have := Int64.lt_iff_toInt_lt.mp h; rw [hri, c1] at this; omega)) z29
theorem ct_nr {A B D x y z F M r : Nat} {u : Int64} (hn : 575 ≤ n) (hm : m < 800) (hb : cBd a BN bd tb) (hbo : ∀ j, ms_bo (bd j)) (hcm : tb m = (8, A, B, D, u, x, y, z, M, F)) (hrow : cRow a (tb m) m) (hr : r < ma_tt bd M F) (hr16 : r ≤ 16) (K : Q (.inl (some (.long (ma_at bd M F r)))) (n, sl, hc a f0)) : mi_W d 128 0 (mi_en 8 [.ref 3, .int (Int32.ofNat m), .int (Int32.ofNat r)]) [] (n, sl, hc a f0) Q := by
  have hrow' := hrow
  rw [hcm] at hrow'
  have h5 : a.AI 2 3 5 m = Int32.ofNat (2 * F) := hrow'.1 5 (by decide) (by decide)
  have hix := ix_of (w := m) (m := 800) (by omega) (by omega)
  refine b_128_0 _ _ _ _ _ _ (by first | (exact hc_o (by first | assumption | (exact ⟨by decide, rfl⟩))) | assumption | (exact (hc_far (by omega)).trans (by assumption))) (by omega) (by first | rfl | assumption) (by first | (exact hc_ai (by omega) (by first | assumption | (exact (ht9 (by assumption)).2.1) | (exact (ht9 (by assumption)).2.2.1) | (exact (ht9 (by assumption)).2.2.2) | rfl) (by decide)) | assumption | (exact (hc_far (by omega)).trans (by assumption))) (Or.inl (by omega)) (by first | assumption | (exact ix_of (by omega) (by omega)) | (exact ⟨by decide, rfl, by decide⟩)) ?_
  rw [h5, (of_17a ⟨r, by omega⟩).2]
  exact ct_nrl hn hm hb hbo hcm hrow M F r _ _ (by omega) hr hr16 K
end
