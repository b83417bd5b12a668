/-! the first object's scanner: signs, keys, the next token -/
theorem ms_sg_len {x e : Int32} : (ms_sg x e = 33 ∨ ms_sg x e = 35) ↔ ((x = 60 ∨ x = 62) ∧ e = 61) := by
  unfold ms_sg
  repeat' split
  all_goals simp_all
theorem of_mul (a b : Nat) : Int32.ofNat a * Int32.ofNat b = Int32.ofNat (a * b) := (Int32.ofNat_mul a b).symm
theorem ckv_sl : ∀ j : Fin 24, mt_sl.getD (16 + j.1) 0 ≤ 7 := by decide +kernel
theorem ckv_3 : mt_sl.getD 3 0 = 192 := by decide +kernel
theorem ckv_v : ∀ j : Fin 24, ∀ i : Fin 8, st_v 3 (8 * j.1 + i.1) = if i.1 < mt_sl.getD (16 + j.1) 0 then st_v (16 + j.1) i.1 else 32 := by decide +kernel
theorem ckv_32 : ∀ j : Fin 24, ∀ i : Fin 8, i.1 < mt_sl.getD (16 + j.1) 0 → ¬ st_v (16 + j.1) i.1 = 32 := by decide +kernel
theorem ckv_iff {g : Nat → Int32} {k e j : Nat} (hj : j < 24) (he : k ≤ e) (hm : e - k < 8) (hw : ∀ i, i < e - k → ¬ g (k + i) = 32) : ((∀ i, i < e - k → st_v 3 (8 * j + i) = g (k + i)) ∧ st_v 3 (8 * j + (e - k)) = 32) ↔ mr_is g k e (16 + j) := by
  have h7 := ckv_sl ⟨j, hj⟩
  have hv : ∀ i, i < 8 → st_v 3 (8 * j + i) = if i < mt_sl.getD (16 + j) 0 then st_v (16 + j) i else 32 := fun i hi => ckv_v ⟨j, hj⟩ ⟨i, hi⟩
  have h32 : ∀ i, i < 8 → i < mt_sl.getD (16 + j) 0 → ¬ st_v (16 + j) i = 32 := fun i hi => ckv_32 ⟨j, hj⟩ ⟨i, hi⟩
  simp only at h7
  unfold mr_is
  constructor
  · rintro ⟨h1, h2⟩
    have hle : mt_sl.getD (16 + j) 0 ≤ e - k := by
      apply Nat.le_of_not_lt
      intro h
      rw [hv _ hm, if_pos h] at h2
      exact h32 _ hm h h2
    have hge : e - k ≤ mt_sl.getD (16 + j) 0 := by
      apply Nat.le_of_not_lt
      intro h
      have := h1 _ h
      rw [hv _ (by omega), if_neg (Nat.lt_irrefl _)] at this
      exact hw _ h this.symm
    have e1 : e - k = mt_sl.getD (16 + j) 0 := Nat.le_antisymm hge hle
    refine ⟨e1, fun i hi => ?_⟩
    have := h1 i (by omega)
    rw [hv _ (by omega), if_pos hi] at this
    exact this.symm
  · rintro ⟨h1, h2⟩
    refine ⟨fun i hi => ?_, ?_⟩
    · rw [hv _ (by omega), if_pos (by omega)]
      exact (h2 i (by omega)).symm
    · rw [hv _ hm, if_neg (by omega)]
theorem ms_wd_in {g : Nat → Int32} {L : Nat} : ∀ (t k i : Nat), k ≤ i → i < ms_wd g L t k → mr_lt (ms_c g L i) ∨ mr_dg (ms_c g L i) := by
  intro t
  induction t with
  | zero => intro k i h1 h2; exact absurd h2 (Nat.not_lt.mpr h1)
  | succ t ih =>
    intro k i h1 h2
    unfold ms_wd at h2
    split at h2
    · rename_i h
      by_cases e : i = k
      · subst e
        exact h
      · exact ih (k + 1) i (by omega) h2
    · omega
theorem ms_ky_long {g : Nat → Int32} {k e : Nat} (h : 8 ≤ e - k) : ∀ t j, j + t ≤ 24 → ms_ky g k e t j = 38 := by
  intro t
  induction t with
  | zero => intro j _; rfl
  | succ t ih =>
    intro j hj
    unfold ms_ky
    rw [if_neg]
    · exact ih (j + 1) (by omega)
    · rintro ⟨h1, -⟩
      have := ckv_sl ⟨j, by omega⟩
      simp only at this
      omega
section
variable {d n sl : Nat} {a : mh_A} {f0 : Nat → mi_C} {Q : (Option Value ⊕ Nat) → mi_H → Prop} {g : Nat → Int32} {L k e : Nat}
theorem cs_k27 {key : Nat} (hn : 575 ≤ n) (hK : mc_K n f0) (h8 : L ≤ 8192) (hg : ∀ k, k < L → a.AI 1 1 0 k = g k) (h3 : a.I 1 1 3 = Int32.ofNat k) (h4 : a.I 1 1 4 = Int32.ofNat (e - k)) (hke : k ≤ e) (heL : e ≤ L) (hm : e - k < 8) (hkey : key < 24) (K1 : (∀ i, i < e - k → st_v 3 (8 * key + i) = g (k + i)) → mi_W (d + 4) 28 63 [some (.ref 1), some (.int (Int32.ofNat key)), some (.int (Int32.ofNat (key * 8))), some (.int (Int32.ofNat (e - k)))] [] (n, sl, hc a f0) Q) (K0 : ¬ (∀ i, i < e - k → st_v 3 (8 * key + i) = g (k + i)) → ∀ i, i < e - k → mi_W (d + 4) 28 63 [some (.ref 1), some (.int (Int32.ofNat key)), some (.int (Int32.ofNat (key * 8))), some (.int (Int32.ofNat i))] [] (n, sl, hc a f0) Q) : ∀ (t i : Nat), i + t = e - k → (∀ j, j < i → st_v 3 (8 * key + j) = g (k + j)) → mi_W (d + 4) 28 27 [some (.ref 1), some (.int (Int32.ofNat key)), some (.int (Int32.ofNat (key * 8))), some (.int (Int32.ofNat i))] [] (n, sl, hc a f0) Q := by
  obtain ⟨fs, hfs⟩ := hK.2 3 (by decide)
  have hcs : hc a f0 (mi_SC + 1 + 2 * 3) = .inr (17, fs) := (hc_far (by decide)).trans hfs
  have hcq : (mi_SC + 1 + 2 * 3) < n ∨ (mi_SC < (mi_SC + 1 + 2 * 3) ∧ ((mi_SC + 1 + 2 * 3) - mi_SC - 1) / 2 < mt_ns) := Or.inr (by decide)
  have hq3 := mi_cq_of (c := 3) (by decide)
  intro t
  induction t with
  | zero =>
    intro i hi hd
    have ei : i = e - k := by omega
    subst ei
    refine b_28_27 _ _ _ (by first | (exact hc_o (by first | assumption | (exact ⟨by decide, rfl⟩))) | assumption | (exact (hc_far (by omega)).trans (by assumption))) (by omega) (by first | rfl | assumption) ?_ ?_
    · intro z27
      exact K1 hd
    · intro z27
      exact absurd ((i_le h4 rfl (by omega) (by omega)).mpr (Nat.le_refl _)) z27
  | succ t ih =>
    intro i hi hd
    have hx : mi_ix (a.I 1 1 3 + Int32.ofNat i) 8200 (k + i) := by rw [h3, of_add']; exact ix_of (by omega) (by omega)
    refine b_28_27 _ _ _ (by first | (exact hc_o (by first | assumption | (exact ⟨by decide, rfl⟩))) | assumption | (exact (hc_far (by omega)).trans (by assumption))) (by omega) (by first | rfl | assumption) ?_ ?_
    · intro z27
      exact absurd ((i_le h4 rfl (by omega) (by omega)).mp z27) (by omega)
    · intro z27
      refine b_28_35 _ _ _ (by first | assumption | (exact mL_get (by decide)) | (rw [mL_len]; decide) | (simp only [mL_set]; exact mL_get (by decide)) | (simp only [mL_set, mL_len]; decide) | (exact va_eq) | (exact (va_ne (by omega)).trans (by assumption)) | (exact (va_ne (by omega)).trans va_eq) | (exact (va_ne (by omega)).trans ((va_ne (by omega)).trans (by assumption))) | (exact (va_ne (by omega)).trans ((va_ne (by omega)).trans ((va_ne (by omega)).trans (by assumption)))) | rfl | (exact Or.inl rfl) | (exact Or.inr rfl) | omega | (exact Nat.le_of_ble_eq_true rfl) | decide | (exact ⟨by decide, rfl, by decide⟩)) (by first | assumption | (exact mL_get (by decide)) | (rw [mL_len]; decide) | (simp only [mL_set]; exact mL_get (by decide)) | (simp only [mL_set, mL_len]; decide) | (exact va_eq) | (exact (va_ne (by omega)).trans (by assumption)) | (exact (va_ne (by omega)).trans va_eq) | (exact (va_ne (by omega)).trans ((va_ne (by omega)).trans (by assumption))) | (exact (va_ne (by omega)).trans ((va_ne (by omega)).trans ((va_ne (by omega)).trans (by assumption)))) | rfl | (exact Or.inl rfl) | (exact Or.inr rfl) | omega | (exact Nat.le_of_ble_eq_true rfl) | decide | (exact ⟨by decide, rfl, by decide⟩)) ?_
      rw [of_add']
      refine st_chr hq3.1 hK.1 hcs (by rw [hq3.2, ckv_3]; omega) ?_
      rw [hq3.2]
      refine b_28_43 _ _ _ _ _ _ (by first | (exact hc_o (by first | assumption | (exact ⟨by decide, rfl⟩))) | assumption | (exact (hc_far (by omega)).trans (by assumption))) (by omega) (by first | rfl | assumption) (by first | (exact hc_o (by first | assumption | (exact ⟨by decide, rfl⟩))) | assumption | (exact (hc_far (by omega)).trans (by assumption))) (by omega) (by first | rfl | assumption) (by first | (exact hc_ai (by omega) (by first | assumption | (exact (ht9 (by assumption)).2.1) | (exact (ht9 (by assumption)).2.2.1) | (exact (ht9 (by assumption)).2.2.2) | rfl) (by decide)) | assumption | (exact (hc_far (by omega)).trans (by assumption))) (by omega) (by first | assumption | (exact ix_of (by omega) (by omega)) | (exact ⟨by decide, rfl, by decide⟩)) ?_ ?_
      · intro z43
        refine K0 (fun h => z43 ?_) i (by omega)
        rw [hg (k + i) (by omega), Nat.mul_comm key 8]
        exact h i (by omega)
      · intro z43
        refine b_28_57 _ _ _ ?_
        rw [of_succ]
        refine ih (i + 1) (by omega) (fun j hj => ?_)
        by_cases ej : j = i
        · subst ej
          have z43 := Classical.not_not.mp z43
          rw [hg (k + j) (by omega), Nat.mul_comm key 8] at z43
          exact z43
        · exact hd j (by omega)
theorem cs_k14 (hn : 575 ≤ n) (hK : mc_K n f0) (h8 : L ≤ 8192) (hg : ∀ k, k < L → a.AI 1 1 0 k = g k) (h3 : a.I 1 1 3 = Int32.ofNat k) (h4 : a.I 1 1 4 = Int32.ofNat (e - k)) (hke : k ≤ e) (heL : e ≤ L) (hm : e - k < 8) (hw : ∀ i, i < e - k → ¬ g (k + i) = 32) : ∀ (t key : Nat) (o3 o4 : Option Value), key + t = 24 → Q (.inl (some (.int (Int32.ofNat (ms_ky g k e t key))))) (n, sl, hc a f0) → mi_W (d + 4) 28 14 [some (.ref 1), some (.int (Int32.ofNat key)), o3, o4] [] (n, sl, hc a f0) Q := by
  obtain ⟨fs, hfs⟩ := hK.2 3 (by decide)
  have hcs : hc a f0 (mi_SC + 1 + 2 * 3) = .inr (17, fs) := (hc_far (by decide)).trans hfs
  have hcq : (mi_SC + 1 + 2 * 3) < n ∨ (mi_SC < (mi_SC + 1 + 2 * 3) ∧ ((mi_SC + 1 + 2 * 3) - mi_SC - 1) / 2 < mt_ns) := Or.inr (by decide)
  have hq3 := mi_cq_of (c := 3) (by decide)
  intro t
  induction t with
  | zero =>
    intro key o3 o4 hkey K
    refine b_28_14 _ _ _ ?_ ?_
    · intro z14
      refine b_28_95 _ _ _ ?_
      exact K
    · intro z14
      exact absurd ((i_le (a := 24) rfl rfl (by omega) (by omega)).mpr (by omega)) z14
  | succ t ih =>
    intro key o3 o4 hkey K
    have hiff := ckv_iff (g := g) (j := key) (by omega) hke hm hw
    have next : ¬ mr_is g k e (16 + key) → ∀ l3 l4 : Int32, mi_W (d + 4) 28 89 [some (.ref 1), some (.int (Int32.ofNat key)), some (.int l3), some (.int l4)] [] (n, sl, hc a f0) Q := by
      intro hni l3 l4
      have e2 : ms_ky g k e (t + 1) key = ms_ky g k e t (key + 1) := by show (if _ then _ else _) = _; rw [if_neg hni]
      rw [e2] at K
      refine b_28_89 _ _ _ ?_
      rw [of_succ]
      exact ih (key + 1) _ _ (by omega) K
    refine b_28_14 _ _ _ ?_ ?_
    · intro z14
      exact absurd ((i_le (a := 24) rfl rfl (by omega) (by omega)).mp z14) (by omega)
    · intro z14
      refine b_28_20 _ _ _ ?_
      rw [show Int32.ofNat key * 8 = Int32.ofNat (key * 8) from of_mul key 8]
      refine cs_k27 (g := g) hn hK h8 hg h3 h4 hke heL hm (by omega) (fun hall => ?_) (fun hno i hi => ?_) (e - k) 0 (by omega) (fun j hj => absurd hj (Nat.not_lt_zero _))
      · skip
        refine b_28_63 _ _ _ (by first | (exact hc_o (by first | assumption | (exact ⟨by decide, rfl⟩))) | assumption | (exact (hc_far (by omega)).trans (by assumption))) (by omega) (by first | rfl | assumption) ?_ ?_
        · intro z63
          exact absurd h4.symm z63
        · intro z63
          refine b_28_71 _ _ _ (by first | (exact hc_o (by first | assumption | (exact ⟨by decide, rfl⟩))) | assumption | (exact (hc_far (by omega)).trans (by assumption))) (by omega) (by first | rfl | assumption) (by first | assumption | (exact mL_get (by decide)) | (rw [mL_len]; decide) | (simp only [mL_set]; exact mL_get (by decide)) | (simp only [mL_set, mL_len]; decide) | (exact va_eq) | (exact (va_ne (by omega)).trans (by assumption)) | (exact (va_ne (by omega)).trans va_eq) | (exact (va_ne (by omega)).trans ((va_ne (by omega)).trans (by assumption))) | (exact (va_ne (by omega)).trans ((va_ne (by omega)).trans ((va_ne (by omega)).trans (by assumption)))) | rfl | (exact Or.inl rfl) | (exact Or.inr rfl) | omega | (exact Nat.le_of_ble_eq_true rfl) | decide | (exact ⟨by decide, rfl, by decide⟩)) (by first | assumption | (exact mL_get (by decide)) | (rw [mL_len]; decide) | (simp only [mL_set]; exact mL_get (by decide)) | (simp only [mL_set, mL_len]; decide) | (exact va_eq) | (exact (va_ne (by omega)).trans (by assumption)) | (exact (va_ne (by omega)).trans va_eq) | (exact (va_ne (by omega)).trans ((va_ne (by omega)).trans (by assumption))) | (exact (va_ne (by omega)).trans ((va_ne (by omega)).trans ((va_ne (by omega)).trans (by assumption)))) | rfl | (exact Or.inl rfl) | (exact Or.inr rfl) | omega | (exact Nat.le_of_ble_eq_true rfl) | decide | (exact ⟨by decide, rfl, by decide⟩)) ?_
          rw [show Int32.ofNat (key * 8) + a.I 1 1 4 = Int32.ofNat (key * 8 + (e - k)) by rw [h4, of_add']]
          refine st_chr hq3.1 hK.1 hcs (by rw [hq3.2, ckv_3]; omega) ?_
          rw [hq3.2, Nat.mul_comm key 8]
          refine b_28_82 _ _ _ ?_ ?_
          · intro z82
            exact next (fun h => z82 (hiff.mpr h).2) _ _
          · intro z82
            refine b_28_87 _ _ _ ?_
            have hy : mr_is g k e (16 + key) := hiff.mp ⟨hall, Classical.not_not.mp z82⟩
            have e2 : ms_ky g k e (t + 1) key = key := by show (if _ then _ else _) = _; rw [if_pos hy]
            rw [e2] at K
            exact K
      · skip
        refine b_28_63 _ _ _ (by first | (exact hc_o (by first | assumption | (exact ⟨by decide, rfl⟩))) | assumption | (exact (hc_far (by omega)).trans (by assumption))) (by omega) (by first | rfl | assumption) ?_ ?_
        · intro z63
          exact next (fun h => hno (hiff.mpr h).1) _ _
        · intro z63
          exact absurd ((i_eq rfl h4 (by omega) (by omega)).mp (Classical.not_not.mp z63)) (by omega)
theorem cs_key (hn : 575 ≤ n) (hK : mc_K n f0) (h8 : L ≤ 8192) (hg : ∀ k, k < L → a.AI 1 1 0 k = g k) (h3 : a.I 1 1 3 = Int32.ofNat k) (h4 : a.I 1 1 4 = Int32.ofNat (e - k)) (hke : k ≤ e) (heL : e ≤ L) (hw : ∀ i, i < e - k → ¬ g (k + i) = 32) (K : Q (.inl (some (.int (Int32.ofNat (ms_ky g k e 24 0))))) (n, sl, hc a f0)) : mi_W (d + 4) 28 0 (mi_en 4 [.ref 1]) [] (n, sl, hc a f0) Q := by
  refine b_28_0 _ _ _ (by first | (exact hc_o (by first | assumption | (exact ⟨by decide, rfl⟩))) | assumption | (exact (hc_far (by omega)).trans (by assumption))) (by omega) (by first | rfl | assumption) ?_ ?_
  · intro z0
    refine b_28_12 _ _ _ ?_
    exact cs_k14 hn hK h8 hg h3 h4 hke heL ((i_lt (b := 8) h4 rfl (by omega) (by omega)).mp z0) hw 24 0 _ _ rfl K
  · intro z0
    refine b_28_9 _ _ _ ?_
    have h := Nat.not_lt.mp ((not_congr (i_lt (b := 8) h4 rfl (by omega) (by omega))).mp z0)
    rw [ms_ky_long h 24 0 (by omega)] at K
    exact K
theorem cs_sign (hn : 575 ≤ n) (hL : a.I 1 1 6 = Int32.ofNat L) (h8 : L ≤ 8192) (hg : ∀ k, k < L → a.AI 1 1 0 k = g k) (h3 : a.I 1 1 3 = Int32.ofNat k) (hkL : k < L) (K : Q (.inl none) (n, sl, hc ((a.sI 1 1 2 (Int32.ofNat (ms_sg (g k) (ms_c g L (k + 1))))).sI 1 1 4 (if (g k = 60 ∨ g k = 62) ∧ ms_c g L (k + 1) = 61 then 2 else 1)) f0)) : mi_W (d + 1) 35 0 (mi_en 2 [.ref 1]) [] (n, sl, hc a f0) Q := by
  have hx0 : mi_ix (a.I 1 1 3) 8200 k := by rw [h3]; exact ix_of (by omega) (by omega)
  have hx1 : mi_ix (a.I 1 1 3 + 1) 8200 (k + 1) := by rw [h3, of_succ]; exact ix_of (by omega) (by omega)
  have h31 : a.I 1 1 3 + 1 = Int32.ofNat (k + 1) := by rw [h3, of_succ]
  have h40 := ms_sg_r (x := g k) (e := ms_c g L (k + 1))
  have hlen := ms_sg_len (x := g k) (e := ms_c g L (k + 1))
  generalize hw : ms_sg (g k) (ms_c g L (k + 1)) = w at *
  refine b_35_0 _ _ _ (by first | (exact hc_o (by first | assumption | (exact ⟨by decide, rfl⟩))) | assumption | (exact (hc_far (by omega)).trans (by assumption))) (by omega) (by first | rfl | assumption) (by first | (exact hc_o (by first | assumption | (exact ⟨by decide, rfl⟩))) | assumption | (exact (hc_far (by omega)).trans (by assumption))) (by omega) (by first | rfl | assumption) ?_ ?_
  · intro z0
    have hkk : ¬ k + 1 < L := Nat.not_lt.mpr ((i_le hL h31 (by omega) (by omega)).mp z0)
    have hqe : ((0 : Int32) = 1 ∧ ms_c g L (k + 1) = 61) ∨ ((0 : Int32) = 0 ∧ ¬ ms_c g L (k + 1) = 61) := Or.inr ⟨rfl, by rw [ms_c_ge hkk]; decide⟩
    refine b_35_33 _ _ _ ?_
    refine b_35_34 _ _ _ _ _ _ (by first | (exact hc_o (by first | assumption | (exact ⟨by decide, rfl⟩))) | assumption | (exact (hc_far (by omega)).trans (by assumption))) (by omega) (by first | rfl | assumption) (by first | (exact hc_o (by first | assumption | (exact ⟨by decide, rfl⟩))) | assumption | (exact (hc_far (by omega)).trans (by assumption))) (by omega) (by first | rfl | assumption) (by first | (exact hc_ai (by omega) (by first | assumption | (exact (ht9 (by assumption)).2.1) | (exact (ht9 (by assumption)).2.2.1) | (exact (ht9 (by assumption)).2.2.2) | rfl) (by decide)) | assumption | (exact (hc_far (by omega)).trans (by assumption))) (by omega) (by first | assumption | (exact ix_of (by omega) (by omega)) | (exact ⟨by decide, rfl, by decide⟩)) ?_
    rw [hg k hkL]
    refine cs_sg hqe ?_
    rw [hw]
    refine b_35_49 _ _ _ (by first | (exact hc_o (by first | assumption | (exact ⟨by decide, rfl⟩))) | assumption | (exact (hc_far (by omega)).trans (by assumption))) (by omega) (Nat.le_of_ble_eq_true rfl) (by first | (exact (congrFun (hw_I (by first | assumption | (exact ⟨by decide, rfl⟩)) (by decide)) _).trans (hc_o (by first | assumption | (exact ⟨by decide, rfl⟩)))) | assumption | (exact (hc_far (by omega)).trans (by assumption))) (by omega) (by first | rfl | assumption) ?_ ?_
    · intro z49
      refine hw_W (hw_I (by first | assumption | (exact ⟨by decide, rfl⟩)) (by decide)) ?_
      refine b_35_71 _ _ _ ?_
      refine b_35_76 _ _ _ (by first | (exact hc_o (by first | assumption | (exact ⟨by decide, rfl⟩))) | assumption | (exact (hc_far (by omega)).trans (by assumption))) (by omega) (Nat.le_of_ble_eq_true rfl) ?_
      refine hw_Q (hw_I (by first | assumption | (exact ⟨by decide, rfl⟩)) (by decide)) ?_
      first
        | (rw [if_pos (hlen.mp (by first | (exact Or.inl ((i_eq (b := 33) rfl rfl (by omega) (by omega)).mp z49)) | (exact Or.inr ((i_eq (b := 35) rfl rfl (by omega) (by omega)).mp (Classical.not_not.mp z62)))))] at K; exact K)
        | (rw [if_neg (fun h => (hlen.mpr h).elim (fun h => z49 ((i_eq (b := 33) rfl rfl (by omega) (by omega)).mpr h)) (fun h => z62 ((i_eq (b := 35) rfl rfl (by omega) (by omega)).mpr h)))] at K; exact K)
    · intro z49
      refine hw_W (hw_I (by first | assumption | (exact ⟨by decide, rfl⟩)) (by decide)) ?_
      refine b_35_62 _ _ _ (by first | (exact hc_o (by first | assumption | (exact ⟨by decide, rfl⟩))) | assumption | (exact (hc_far (by omega)).trans (by assumption))) (by omega) (by first | rfl | assumption) ?_ ?_
      · intro z62
        refine b_35_75 _ _ _ ?_
        refine b_35_76 _ _ _ (by first | (exact hc_o (by first | assumption | (exact ⟨by decide, rfl⟩))) | assumption | (exact (hc_far (by omega)).trans (by assumption))) (by omega) (Nat.le_of_ble_eq_true rfl) ?_
        refine hw_Q (hw_I (by first | assumption | (exact ⟨by decide, rfl⟩)) (by decide)) ?_
        first
          | (rw [if_pos (hlen.mp (by first | (exact Or.inl ((i_eq (b := 33) rfl rfl (by omega) (by omega)).mp z49)) | (exact Or.inr ((i_eq (b := 35) rfl rfl (by omega) (by omega)).mp (Classical.not_not.mp z62)))))] at K; exact K)
          | (rw [if_neg (fun h => (hlen.mpr h).elim (fun h => z49 ((i_eq (b := 33) rfl rfl (by omega) (by omega)).mpr h)) (fun h => z62 ((i_eq (b := 35) rfl rfl (by omega) (by omega)).mpr h)))] at K; exact K)
      · intro z62
        refine b_35_71 _ _ _ ?_
        refine b_35_76 _ _ _ (by first | (exact hc_o (by first | assumption | (exact ⟨by decide, rfl⟩))) | assumption | (exact (hc_far (by omega)).trans (by assumption))) (by omega) (Nat.le_of_ble_eq_true rfl) ?_
        refine hw_Q (hw_I (by first | assumption | (exact ⟨by decide, rfl⟩)) (by decide)) ?_
        first
          | (rw [if_pos (hlen.mp (by first | (exact Or.inl ((i_eq (b := 33) rfl rfl (by omega) (by omega)).mp z49)) | (exact Or.inr ((i_eq (b := 35) rfl rfl (by omega) (by omega)).mp (Classical.not_not.mp z62)))))] at K; exact K)
          | (rw [if_neg (fun h => (hlen.mpr h).elim (fun h => z49 ((i_eq (b := 33) rfl rfl (by omega) (by omega)).mpr h)) (fun h => z62 ((i_eq (b := 35) rfl rfl (by omega) (by omega)).mpr h)))] at K; exact K)
  · intro z0
    have hkk : k + 1 < L := Nat.not_le.mp (fun h => z0 ((i_le hL h31 (by omega) (by omega)).mpr h))
    refine b_35_13 _ _ _ _ _ _ (by first | (exact hc_o (by first | assumption | (exact ⟨by decide, rfl⟩))) | assumption | (exact (hc_far (by omega)).trans (by assumption))) (by omega) (by first | rfl | assumption) (by first | (exact hc_o (by first | assumption | (exact ⟨by decide, rfl⟩))) | assumption | (exact (hc_far (by omega)).trans (by assumption))) (by omega) (by first | rfl | assumption) (by first | (exact hc_ai (by omega) (by first | assumption | (exact (ht9 (by assumption)).2.1) | (exact (ht9 (by assumption)).2.2.1) | (exact (ht9 (by assumption)).2.2.2) | rfl) (by decide)) | assumption | (exact (hc_far (by omega)).trans (by assumption))) (by omega) (by first | assumption | (exact ix_of (by omega) (by omega)) | (exact ⟨by decide, rfl, by decide⟩)) ?_ ?_
    · intro z13
      have hqe : ((0 : Int32) = 1 ∧ ms_c g L (k + 1) = 61) ∨ ((0 : Int32) = 0 ∧ ¬ ms_c g L (k + 1) = 61) := Or.inr ⟨rfl, by rw [ms_c_lt hkk, ← hg _ hkk]; exact z13⟩
      refine b_35_33 _ _ _ ?_
      refine b_35_34 _ _ _ _ _ _ (by first | (exact hc_o (by first | assumption | (exact ⟨by decide, rfl⟩))) | assumption | (exact (hc_far (by omega)).trans (by assumption))) (by omega) (by first | rfl | assumption) (by first | (exact hc_o (by first | assumption | (exact ⟨by decide, rfl⟩))) | assumption | (exact (hc_far (by omega)).trans (by assumption))) (by omega) (by first | rfl | assumption) (by first | (exact hc_ai (by omega) (by first | assumption | (exact (ht9 (by assumption)).2.1) | (exact (ht9 (by assumption)).2.2.1) | (exact (ht9 (by assumption)).2.2.2) | rfl) (by decide)) | assumption | (exact (hc_far (by omega)).trans (by assumption))) (by omega) (by first | assumption | (exact ix_of (by omega) (by omega)) | (exact ⟨by decide, rfl, by decide⟩)) ?_
      rw [hg k hkL]
      refine cs_sg hqe ?_
      rw [hw]
      refine b_35_49 _ _ _ (by first | (exact hc_o (by first | assumption | (exact ⟨by decide, rfl⟩))) | assumption | (exact (hc_far (by omega)).trans (by assumption))) (by omega) (Nat.le_of_ble_eq_true rfl) (by first | (exact (congrFun (hw_I (by first | assumption | (exact ⟨by decide, rfl⟩)) (by decide)) _).trans (hc_o (by first | assumption | (exact ⟨by decide, rfl⟩)))) | assumption | (exact (hc_far (by omega)).trans (by assumption))) (by omega) (by first | rfl | assumption) ?_ ?_
      · intro z49
        refine hw_W (hw_I (by first | assumption | (exact ⟨by decide, rfl⟩)) (by decide)) ?_
        refine b_35_71 _ _ _ ?_
        refine b_35_76 _ _ _ (by first | (exact hc_o (by first | assumption | (exact ⟨by decide, rfl⟩))) | assumption | (exact (hc_far (by omega)).trans (by assumption))) (by omega) (Nat.le_of_ble_eq_true rfl) ?_
        refine hw_Q (hw_I (by first | assumption | (exact ⟨by decide, rfl⟩)) (by decide)) ?_
        first
          | (rw [if_pos (hlen.mp (by first | (exact Or.inl ((i_eq (b := 33) rfl rfl (by omega) (by omega)).mp z49)) | (exact Or.inr ((i_eq (b := 35) rfl rfl (by omega) (by omega)).mp (Classical.not_not.mp z62)))))] at K; exact K)
          | (rw [if_neg (fun h => (hlen.mpr h).elim (fun h => z49 ((i_eq (b := 33) rfl rfl (by omega) (by omega)).mpr h)) (fun h => z62 ((i_eq (b := 35) rfl rfl (by omega) (by omega)).mpr h)))] at K; exact K)
      · intro z49
        refine hw_W (hw_I (by first | assumption | (exact ⟨by decide, rfl⟩)) (by decide)) ?_
        refine b_35_62 _ _ _ (by first | (exact hc_o (by first | assumption | (exact ⟨by decide, rfl⟩))) | assumption | (exact (hc_far (by omega)).trans (by assumption))) (by omega) (by first | rfl | assumption) ?_ ?_
        · intro z62
          refine b_35_75 _ _ _ ?_
          refine b_35_76 _ _ _ (by first | (exact hc_o (by first | assumption | (exact ⟨by decide, rfl⟩))) | assumption | (exact (hc_far (by omega)).trans (by assumption))) (by omega) (Nat.le_of_ble_eq_true rfl) ?_
          refine hw_Q (hw_I (by first | assumption | (exact ⟨by decide, rfl⟩)) (by decide)) ?_
          first
            | (rw [if_pos (hlen.mp (by first | (exact Or.inl ((i_eq (b := 33) rfl rfl (by omega) (by omega)).mp z49)) | (exact Or.inr ((i_eq (b := 35) rfl rfl (by omega) (by omega)).mp (Classical.not_not.mp z62)))))] at K; exact K)
            | (rw [if_neg (fun h => (hlen.mpr h).elim (fun h => z49 ((i_eq (b := 33) rfl rfl (by omega) (by omega)).mpr h)) (fun h => z62 ((i_eq (b := 35) rfl rfl (by omega) (by omega)).mpr h)))] at K; exact K)
        · intro z62
          refine b_35_71 _ _ _ ?_
          refine b_35_76 _ _ _ (by first | (exact hc_o (by first | assumption | (exact ⟨by decide, rfl⟩))) | assumption | (exact (hc_far (by omega)).trans (by assumption))) (by omega) (Nat.le_of_ble_eq_true rfl) ?_
          refine hw_Q (hw_I (by first | assumption | (exact ⟨by decide, rfl⟩)) (by decide)) ?_
          first
            | (rw [if_pos (hlen.mp (by first | (exact Or.inl ((i_eq (b := 33) rfl rfl (by omega) (by omega)).mp z49)) | (exact Or.inr ((i_eq (b := 35) rfl rfl (by omega) (by omega)).mp (Classical.not_not.mp z62)))))] at K; exact K)
            | (rw [if_neg (fun h => (hlen.mpr h).elim (fun h => z49 ((i_eq (b := 33) rfl rfl (by omega) (by omega)).mpr h)) (fun h => z62 ((i_eq (b := 35) rfl rfl (by omega) (by omega)).mpr h)))] at K; exact K)
    · intro z13
      have hqe : ((1 : Int32) = 1 ∧ ms_c g L (k + 1) = 61) ∨ ((1 : Int32) = 0 ∧ ¬ ms_c g L (k + 1) = 61) := Or.inl ⟨rfl, by rw [ms_c_lt hkk, ← hg _ hkk]; exact Classical.not_not.mp z13⟩
      refine b_35_29 _ _ _ ?_
      refine b_35_34 _ _ _ _ _ _ (by first | (exact hc_o (by first | assumption | (exact ⟨by decide, rfl⟩))) | assumption | (exact (hc_far (by omega)).trans (by assumption))) (by omega) (by first | rfl | assumption) (by first | (exact hc_o (by first | assumption | (exact ⟨by decide, rfl⟩))) | assumption | (exact (hc_far (by omega)).trans (by assumption))) (by omega) (by first | rfl | assumption) (by first | (exact hc_ai (by omega) (by first | assumption | (exact (ht9 (by assumption)).2.1) | (exact (ht9 (by assumption)).2.2.1) | (exact (ht9 (by assumption)).2.2.2) | rfl) (by decide)) | assumption | (exact (hc_far (by omega)).trans (by assumption))) (by omega) (by first | assumption | (exact ix_of (by omega) (by omega)) | (exact ⟨by decide, rfl, by decide⟩)) ?_
      rw [hg k hkL]
      refine cs_sg hqe ?_
      rw [hw]
      refine b_35_49 _ _ _ (by first | (exact hc_o (by first | assumption | (exact ⟨by decide, rfl⟩))) | assumption | (exact (hc_far (by omega)).trans (by assumption))) (by omega) (Nat.le_of_ble_eq_true rfl) (by first | (exact (congrFun (hw_I (by first | assumption | (exact ⟨by decide, rfl⟩)) (by decide)) _).trans (hc_o (by first | assumption | (exact ⟨by decide, rfl⟩)))) | assumption | (exact (hc_far (by omega)).trans (by assumption))) (by omega) (by first | rfl | assumption) ?_ ?_
      · intro z49
        refine hw_W (hw_I (by first | assumption | (exact ⟨by decide, rfl⟩)) (by decide)) ?_
        refine b_35_71 _ _ _ ?_
        refine b_35_76 _ _ _ (by first | (exact hc_o (by first | assumption | (exact ⟨by decide, rfl⟩))) | assumption | (exact (hc_far (by omega)).trans (by assumption))) (by omega) (Nat.le_of_ble_eq_true rfl) ?_
        refine hw_Q (hw_I (by first | assumption | (exact ⟨by decide, rfl⟩)) (by decide)) ?_
        first
          | (rw [if_pos (hlen.mp (by first | (exact Or.inl ((i_eq (b := 33) rfl rfl (by omega) (by omega)).mp z49)) | (exact Or.inr ((i_eq (b := 35) rfl rfl (by omega) (by omega)).mp (Classical.not_not.mp z62)))))] at K; exact K)
          | (rw [if_neg (fun h => (hlen.mpr h).elim (fun h => z49 ((i_eq (b := 33) rfl rfl (by omega) (by omega)).mpr h)) (fun h => z62 ((i_eq (b := 35) rfl rfl (by omega) (by omega)).mpr h)))] at K; exact K)
      · intro z49
        refine hw_W (hw_I (by first | assumption | (exact ⟨by decide, rfl⟩)) (by decide)) ?_
        refine b_35_62 _ _ _ (by first | (exact hc_o (by first | assumption | (exact ⟨by decide, rfl⟩))) | assumption | (exact (hc_far (by omega)).trans (by assumption))) (by omega) (by first | rfl | assumption) ?_ ?_
        · intro z62
          refine b_35_75 _ _ _ ?_
          refine b_35_76 _ _ _ (by first | (exact hc_o (by first | assumption | (exact ⟨by decide, rfl⟩))) | assumption | (exact (hc_far (by omega)).trans (by assumption))) (by omega) (Nat.le_of_ble_eq_true rfl) ?_
          refine hw_Q (hw_I (by first | assumption | (exact ⟨by decide, rfl⟩)) (by decide)) ?_
          first
            | (rw [if_pos (hlen.mp (by first | (exact Or.inl ((i_eq (b := 33) rfl rfl (by omega) (by omega)).mp z49)) | (exact Or.inr ((i_eq (b := 35) rfl rfl (by omega) (by omega)).mp (Classical.not_not.mp z62)))))] at K; exact K)
            | (rw [if_neg (fun h => (hlen.mpr h).elim (fun h => z49 ((i_eq (b := 33) rfl rfl (by omega) (by omega)).mpr h)) (fun h => z62 ((i_eq (b := 35) rfl rfl (by omega) (by omega)).mpr h)))] at K; exact K)
        · intro z62
          refine b_35_71 _ _ _ ?_
          refine b_35_76 _ _ _ (by first | (exact hc_o (by first | assumption | (exact ⟨by decide, rfl⟩))) | assumption | (exact (hc_far (by omega)).trans (by assumption))) (by omega) (Nat.le_of_ble_eq_true rfl) ?_
          refine hw_Q (hw_I (by first | assumption | (exact ⟨by decide, rfl⟩)) (by decide)) ?_
          first
            | (rw [if_pos (hlen.mp (by first | (exact Or.inl ((i_eq (b := 33) rfl rfl (by omega) (by omega)).mp z49)) | (exact Or.inr ((i_eq (b := 35) rfl rfl (by omega) (by omega)).mp (Classical.not_not.mp z62)))))] at K; exact K)
            | (rw [if_neg (fun h => (hlen.mpr h).elim (fun h => z49 ((i_eq (b := 33) rfl rfl (by omega) (by omega)).mpr h)) (fun h => z62 ((i_eq (b := 35) rfl rfl (by omega) (by omega)).mpr h)))] at K; exact K)
end
