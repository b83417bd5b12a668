/-! the first object: a step is taken -/
def cLv (f0 : Nat → mi_C) (gl : Nat → Option Nat) : Prop := f0 61 = .inl (4, 104, .inr (.inr (.inr (.inr gl)))) ∧ ∀ i, i < 104 → gl i = some (80 + 4 * i)
/-- the nodes as the first object has them -/
def cTb (a : mh_A) (N BN : Nat) (tb : Nat → ms_N) (bd : Nat → Int64 × Int64) : Prop := ((a.I 2 3 11 = Int32.ofNat N ∧ N ≤ 800) ∧ crg 0 N a tb ∧ mv_tok tb) ∧ cBd a BN bd tb ∧ ∀ j, ms_bo (bd j)
/-- a level's step -/
def cStp (a : mh_A) (l : Nat) (s : ma_P) : Prop := (a.AI 11 54 7 l = Int32.ofNat s.1 ∧ s.1 ≤ 4) ∧ a.AI 11 54 9 l = mz_lk s.2.2.1 ∧ (¬ (s.1 = 1 ∧ s.2.2.2 = true) → a.AL 11 54 8 l = s.2.1) ∧ (s.1 = 1 → a.I 10 496 4 = cfl s.2.2.2)
/-- what taking a step leaves as it is -/
def cTk (l : Nat) (a a' : mh_A) : Prop := (∀ c r, ¬ (c = 7 ∧ r = 67) → ¬ (c = 10 ∧ r = 79) → a'.R c r = a.R c r) ∧ ∀ c r k, ¬ (c = 9 ∧ r = 80 + 4 * (l + 1)) → ¬ (c = 8 ∧ r = 68) → ¬ (c = 5 ∧ k = 1) → ¬ (c = 10 ∧ r = 79) → ¬ (c = 7 ∧ r = 67) → ¬ (c = 6 ∧ r = 55) → a'.I c r k = a.I c r k ∧ a'.L c r k = a.L c r k ∧ a'.AI c r k = a.AI c r k ∧ a'.AL c r k = a.AL c r k
section
variable {d e n sl N BN : Nat} {a a1 a2 : mh_A} {f0 : Nat → mi_C} {Q : (Option Value ⊕ Nat) → mi_H → Prop} {p q k l m : Nat} {tb : Nat → ms_N} {bd : Nat → Int64 × Int64} {S : mv_S} {v : Int64} {gl : Nat → Option Nat} {s : ma_P}
theorem cLv.at (h : cLv f0 gl) : ∀ a, hc a f0 61 = .inl (4, 104, .inr (.inr (.inr (.inr gl)))) := fun _ => h.1
theorem lv_o : ∀ i : Fin 104, mh_o (80 + 4 * i.1) 9 := by
  intro i
  have : ∀ i : Fin 104, 80 + 4 * i.1 < 505 ∧ mh_t (80 + 4 * i.1) = (9, 0, 9, 0, 0) := by decide +kernel
  exact this i
theorem cTk.trans (h : cTk l a a1) (h' : cTk l a1 a2) : cTk l a a2 := ⟨fun c r h1 h2 => (h'.1 c r h1 h2).trans (h.1 c r h1 h2), fun c r k h1 h2 h3 h4 h5 h6 => ⟨(h'.2 c r k h1 h2 h3 h4 h5 h6).1.trans (h.2 c r k h1 h2 h3 h4 h5 h6).1, (h'.2 c r k h1 h2 h3 h4 h5 h6).2.1.trans (h.2 c r k h1 h2 h3 h4 h5 h6).2.1, (h'.2 c r k h1 h2 h3 h4 h5 h6).2.2.1.trans (h.2 c r k h1 h2 h3 h4 h5 h6).2.2.1, (h'.2 c r k h1 h2 h3 h4 h5 h6).2.2.2.trans (h.2 c r k h1 h2 h3 h4 h5 h6).2.2.2⟩⟩
theorem cTk.re : cTk l a a := ⟨fun _ _ _ _ => rfl, fun _ _ _ _ _ _ _ _ _ => ⟨rfl, rfl, rfl, rfl⟩⟩
theorem cTk.fs (h : cFs (80 + 4 * (l + 1)) a a1) : cTk l a a1 := ⟨fun c r _ _ => by rw [h.1], fun c r k h1 _ _ _ _ _ => h.2 c r k h1⟩
theorem cTk.me (h : cMe 67 (80 + 4 * (l + 1)) a a1) : cTk l a a1 := ⟨fun c r h1 h2 => h.1 c r h1 h2, fun c r k h1 h2 h3 h4 h5 _ => h.2 c r k h1 h2 h3 h4 h5⟩
theorem cTb.tk (h : cTb a N BN tb bd) (f : cTk l a a1) : cTb a1 N BN tb bd := by
  obtain ⟨⟨⟨h1, h2⟩, h3, h4⟩, h5, h6⟩ := h
  have fI : ∀ k, a1.I 2 3 k = a.I 2 3 k := fun k => (f.2 2 3 k (by omega) (by omega) (by omega) (by omega) (by omega) (by omega)).1
  have fAI : ∀ k, a1.AI 2 3 k = a.AI 2 3 k := fun k => (f.2 2 3 k (by omega) (by omega) (by omega) (by omega) (by omega) (by omega)).2.2.1
  have fAL : ∀ k, a1.AL 2 3 k = a.AL 2 3 k := fun k => (f.2 2 3 k (by omega) (by omega) (by omega) (by omega) (by omega) (by omega)).2.2.2
  refine ⟨⟨⟨by rw [fI]; exact h1, h2⟩, h3.to (fun m _ _ => ⟨fun k _ => by rw [fAI], by rw [fAL]⟩) (fun _ _ _ => rfl), h4⟩, ?_, h6⟩
  unfold cBd
  rw [fAL]
  exact h5
theorem cm_ird (hn : 575 ≤ n) (hs : cSt a q S) (hT : cTb a N BN tb bd) (hok : mz_ok tb N 100 0 S.at) (K : Q (.inl (some (.int (cfl (ma_rd tb S))))) (n, sl, hc a f0)) : mi_W (d + 2) 125 0 (mi_en 3 [.ref 67, .ref q]) [] (n, sl, hc a f0) Q := by
  obtain ⟨hq, ⟨h0, h8⟩, htm, hac, -⟩ := hs
  have hq5 := hq.1
  have hm : S.at < N := mz_u1 hok
  have hN8 := hT.1.1.2
  have hso := (mz_un (k := 99) hok).2.1
  have hrow := (hT.1.2.1 S.at (Nat.zero_le _) hm).1
  have hix : mi_ix (a.I 9 q 0) 800 S.at := by
    rw [h0]
    exact ix_of (by omega) (by omega)
  unfold ma_rd at K
  rcases hcm : tb S.at with ⟨op, A, B, D, v, x, y, z, u⟩
  rw [hcm] at hso K hrow
  dsimp only at K
  have ho := mz_so0 ⟨op, mz_so33 hso (by decide)⟩ hso
  dsimp only at ho
  have hpo : mh_o 67 7 := ⟨by decide, rfl⟩
  have h9 := ht9 hq

  rcases ho with rfl | rfl | rfl | rfl | rfl | rfl | rfl
  · have hk : a.AI 2 3 0 S.at = 0 := hrow.1 0 (by decide) (by decide)
    rw [if_pos rfl] at K
    refine b_125_0 _ _ _ (by first | (exact hc_o (by first | assumption | (exact ⟨by decide, rfl⟩))) | assumption | (exact (hc_far (by omega)).trans (by assumption))) (by omega) (by first | rfl | assumption) (by first | (exact hc_o (by first | assumption | (exact ⟨by decide, rfl⟩))) | assumption | (exact (hc_far (by omega)).trans (by assumption))) (by omega) (by first | rfl | assumption) (by first | (exact hc_o (by first | assumption | (exact ⟨by decide, rfl⟩))) | assumption | (exact (hc_far (by omega)).trans (by assumption))) (by omega) ?_
    rw [h0]
    refine ct_kind hn hT.1.1.1 hN8 hm hk ?_
    refine b_125_11 _ _ _ ?_ ?_
    · intro z11
      first | (exact absurd z11 (by decide)) | (exact absurd (by decide) z11) | (exact absurd rfl z11) | (exact absurd z11 (of_nn (by omega))) | (exact absurd (of_np (by omega)) z11) | omega
    · intro z11
      refine b_125_16 _ _ _ (by first | (exact hc_o (by first | assumption | (exact ⟨by decide, rfl⟩))) | assumption | (exact (hc_far (by omega)).trans (by assumption))) (by omega) ?_
      refine b_84_0 _ _ _ ?_
      refine cs_ff hn hq S.ac hac 32 0 rfl (fun h1 => ?_) (fun h1 => ?_)
      · refine b_125_20 _ _ _ ?_ ?_
        · intro z20
          exact absurd z20 (fun h => absurd h (of_m1 (by omega)))
        · intro z20
          refine b_125_24 _ _ _ ?_
          refine b_125_29 _ _ _ (by first | assumption | (exact mL_get (by decide)) | (rw [mL_len]; decide) | (simp only [mL_set]; exact mL_get (by decide)) | (simp only [mL_set, mL_len]; decide) | (exact va_eq) | (exact (va_ne (by omega)).trans (by assumption)) | (exact (va_ne (by omega)).trans va_eq) | (exact (va_ne (by omega)).trans ((va_ne (by omega)).trans (by assumption))) | (exact (va_ne (by omega)).trans ((va_ne (by omega)).trans ((va_ne (by omega)).trans (by assumption)))) | rfl | (exact Or.inl rfl) | (exact Or.inr rfl) | omega | (exact Nat.le_of_ble_eq_true rfl) | decide | (exact ⟨by decide, rfl, by decide⟩)) ?_
          rw [decide_eq_true (by omega : ¬ mv_ff S.ac 32 0 = 32)] at K
          exact K
      · refine b_125_20 _ _ _ ?_ ?_
        · intro z20
          refine b_125_28 _ _ _ ?_
          refine b_125_29 _ _ _ (by first | assumption | (exact mL_get (by decide)) | (rw [mL_len]; decide) | (simp only [mL_set]; exact mL_get (by decide)) | (simp only [mL_set, mL_len]; decide) | (exact va_eq) | (exact (va_ne (by omega)).trans (by assumption)) | (exact (va_ne (by omega)).trans va_eq) | (exact (va_ne (by omega)).trans ((va_ne (by omega)).trans (by assumption))) | (exact (va_ne (by omega)).trans ((va_ne (by omega)).trans ((va_ne (by omega)).trans (by assumption)))) | rfl | (exact Or.inl rfl) | (exact Or.inr rfl) | omega | (exact Nat.le_of_ble_eq_true rfl) | decide | (exact ⟨by decide, rfl, by decide⟩)) ?_
          rw [decide_eq_false (fun h => h h1)] at K
          exact K
        · intro z20
          first | (exact absurd z20 (by decide)) | (exact absurd (by decide) z20) | (exact absurd rfl z20) | (exact absurd z20 (of_nn (by omega))) | (exact absurd (of_np (by omega)) z20) | omega
  · have hk : a.AI 2 3 0 S.at = 1 := hrow.1 0 (by decide) (by decide)
    rw [if_neg (by decide), if_neg (by decide)] at K
    refine b_125_0 _ _ _ (by first | (exact hc_o (by first | assumption | (exact ⟨by decide, rfl⟩))) | assumption | (exact (hc_far (by omega)).trans (by assumption))) (by omega) (by first | rfl | assumption) (by first | (exact hc_o (by first | assumption | (exact ⟨by decide, rfl⟩))) | assumption | (exact (hc_far (by omega)).trans (by assumption))) (by omega) (by first | rfl | assumption) (by first | (exact hc_o (by first | assumption | (exact ⟨by decide, rfl⟩))) | assumption | (exact (hc_far (by omega)).trans (by assumption))) (by omega) ?_
    rw [h0]
    refine ct_kind hn hT.1.1.1 hN8 hm hk ?_
    refine b_125_11 _ _ _ ?_ ?_
    · intro z11
      refine b_125_30 _ _ _ ?_ ?_
      · intro z30
        refine b_125_55 _ _ _ ?_
        refine b_125_60 _ _ _ (by first | assumption | (exact mL_get (by decide)) | (rw [mL_len]; decide) | (simp only [mL_set]; exact mL_get (by decide)) | (simp only [mL_set, mL_len]; decide) | (exact va_eq) | (exact (va_ne (by omega)).trans (by assumption)) | (exact (va_ne (by omega)).trans va_eq) | (exact (va_ne (by omega)).trans ((va_ne (by omega)).trans (by assumption))) | (exact (va_ne (by omega)).trans ((va_ne (by omega)).trans ((va_ne (by omega)).trans (by assumption)))) | rfl | (exact Or.inl rfl) | (exact Or.inr rfl) | omega | (exact Nat.le_of_ble_eq_true rfl) | decide | (exact ⟨by decide, rfl, by decide⟩)) ?_
        exact K
      · intro z30
        first | (exact absurd z30 (by decide)) | (exact absurd (by decide) z30) | (exact absurd rfl z30) | (exact absurd z30 (of_nn (by omega))) | (exact absurd (of_np (by omega)) z30) | omega
    · intro z11
      first | (exact absurd z11 (by decide)) | (exact absurd (by decide) z11) | (exact absurd rfl z11) | (exact absurd z11 (of_nn (by omega))) | (exact absurd (of_np (by omega)) z11) | omega
  · have hk : a.AI 2 3 0 S.at = 1 := hrow.1 0 (by decide) (by decide)
    rw [if_neg (by decide), if_neg (by decide)] at K
    refine b_125_0 _ _ _ (by first | (exact hc_o (by first | assumption | (exact ⟨by decide, rfl⟩))) | assumption | (exact (hc_far (by omega)).trans (by assumption))) (by omega) (by first | rfl | assumption) (by first | (exact hc_o (by first | assumption | (exact ⟨by decide, rfl⟩))) | assumption | (exact (hc_far (by omega)).trans (by assumption))) (by omega) (by first | rfl | assumption) (by first | (exact hc_o (by first | assumption | (exact ⟨by decide, rfl⟩))) | assumption | (exact (hc_far (by omega)).trans (by assumption))) (by omega) ?_
    rw [h0]
    refine ct_kind hn hT.1.1.1 hN8 hm hk ?_
    refine b_125_11 _ _ _ ?_ ?_
    · intro z11
      refine b_125_30 _ _ _ ?_ ?_
      · intro z30
        refine b_125_55 _ _ _ ?_
        refine b_125_60 _ _ _ (by first | assumption | (exact mL_get (by decide)) | (rw [mL_len]; decide) | (simp only [mL_set]; exact mL_get (by decide)) | (simp only [mL_set, mL_len]; decide) | (exact va_eq) | (exact (va_ne (by omega)).trans (by assumption)) | (exact (va_ne (by omega)).trans va_eq) | (exact (va_ne (by omega)).trans ((va_ne (by omega)).trans (by assumption))) | (exact (va_ne (by omega)).trans ((va_ne (by omega)).trans ((va_ne (by omega)).trans (by assumption)))) | rfl | (exact Or.inl rfl) | (exact Or.inr rfl) | omega | (exact Nat.le_of_ble_eq_true rfl) | decide | (exact ⟨by decide, rfl, by decide⟩)) ?_
        exact K
      · intro z30
        first | (exact absurd z30 (by decide)) | (exact absurd (by decide) z30) | (exact absurd rfl z30) | (exact absurd z30 (of_nn (by omega))) | (exact absurd (of_np (by omega)) z30) | omega
    · intro z11
      first | (exact absurd z11 (by decide)) | (exact absurd (by decide) z11) | (exact absurd rfl z11) | (exact absurd z11 (of_nn (by omega))) | (exact absurd (of_np (by omega)) z11) | omega
  · have hk : a.AI 2 3 0 S.at = 4 := hrow.1 0 (by decide) (by decide)
    rw [if_neg (by decide), if_neg (by decide)] at K
    refine b_125_0 _ _ _ (by first | (exact hc_o (by first | assumption | (exact ⟨by decide, rfl⟩))) | assumption | (exact (hc_far (by omega)).trans (by assumption))) (by omega) (by first | rfl | assumption) (by first | (exact hc_o (by first | assumption | (exact ⟨by decide, rfl⟩))) | assumption | (exact (hc_far (by omega)).trans (by assumption))) (by omega) (by first | rfl | assumption) (by first | (exact hc_o (by first | assumption | (exact ⟨by decide, rfl⟩))) | assumption | (exact (hc_far (by omega)).trans (by assumption))) (by omega) ?_
    rw [h0]
    refine ct_kind hn hT.1.1.1 hN8 hm hk ?_
    refine b_125_11 _ _ _ ?_ ?_
    · intro z11
      refine b_125_30 _ _ _ ?_ ?_
      · intro z30
        refine b_125_55 _ _ _ ?_
        refine b_125_60 _ _ _ (by first | assumption | (exact mL_get (by decide)) | (rw [mL_len]; decide) | (simp only [mL_set]; exact mL_get (by decide)) | (simp only [mL_set, mL_len]; decide) | (exact va_eq) | (exact (va_ne (by omega)).trans (by assumption)) | (exact (va_ne (by omega)).trans va_eq) | (exact (va_ne (by omega)).trans ((va_ne (by omega)).trans (by assumption))) | (exact (va_ne (by omega)).trans ((va_ne (by omega)).trans ((va_ne (by omega)).trans (by assumption)))) | rfl | (exact Or.inl rfl) | (exact Or.inr rfl) | omega | (exact Nat.le_of_ble_eq_true rfl) | decide | (exact ⟨by decide, rfl, by decide⟩)) ?_
        exact K
      · intro z30
        first | (exact absurd z30 (by decide)) | (exact absurd (by decide) z30) | (exact absurd rfl z30) | (exact absurd z30 (of_nn (by omega))) | (exact absurd (of_np (by omega)) z30) | omega
    · intro z11
      first | (exact absurd z11 (by decide)) | (exact absurd (by decide) z11) | (exact absurd rfl z11) | (exact absurd z11 (of_nn (by omega))) | (exact absurd (of_np (by omega)) z11) | omega
  · have hk : a.AI 2 3 0 S.at = 5 := hrow.1 0 (by decide) (by decide)
    rw [if_neg (by decide), if_pos rfl] at K
    have hv : a.AL 2 3 9 S.at = v := hrow.2.1
    refine b_125_0 _ _ _ (by first | (exact hc_o (by first | assumption | (exact ⟨by decide, rfl⟩))) | assumption | (exact (hc_far (by omega)).trans (by assumption))) (by omega) (by first | rfl | assumption) (by first | (exact hc_o (by first | assumption | (exact ⟨by decide, rfl⟩))) | assumption | (exact (hc_far (by omega)).trans (by assumption))) (by omega) (by first | rfl | assumption) (by first | (exact hc_o (by first | assumption | (exact ⟨by decide, rfl⟩))) | assumption | (exact (hc_far (by omega)).trans (by assumption))) (by omega) ?_
    rw [h0]
    refine ct_kind hn hT.1.1.1 hN8 hm hk ?_
    refine b_125_11 _ _ _ ?_ ?_
    · intro z11
      refine b_125_30 _ _ _ ?_ ?_
      · intro z30
        first | (exact absurd z30 (by decide)) | (exact absurd (by decide) z30) | (exact absurd rfl z30) | (exact absurd z30 (of_nn (by omega))) | (exact absurd (of_np (by omega)) z30) | omega
      · intro z30
        refine b_125_35 _ _ _ _ _ _ (by first | (exact hc_o (by first | assumption | (exact ⟨by decide, rfl⟩))) | assumption | (exact (hc_far (by omega)).trans (by assumption))) (by omega) (by first | rfl | assumption) (by first | (exact hc_o (by first | assumption | (exact ⟨by decide, rfl⟩))) | assumption | (exact (hc_far (by omega)).trans (by assumption))) (by omega) (by first | rfl | assumption) (by first | (exact hc_o (by first | assumption | (exact ⟨by decide, rfl⟩))) | assumption | (exact (hc_far (by omega)).trans (by assumption))) (by omega) (by first | rfl | assumption) (by first | (exact hc_al (by omega) (by first | assumption | (exact (ht9 (by assumption)).2.1) | (exact (ht9 (by assumption)).2.2.1) | (exact (ht9 (by assumption)).2.2.2) | rfl)) | assumption | (exact (hc_far (by omega)).trans (by assumption))) (by omega) (by first | assumption | (exact ix_of (by omega) (by omega)) | (exact ⟨by decide, rfl, by decide⟩)) (by first | (exact hc_o (by first | assumption | (exact ⟨by decide, rfl⟩))) | assumption | (exact (hc_far (by omega)).trans (by assumption))) (by omega) (by first | rfl | assumption) ?_ ?_
        · intro z35
          rw [hv, htm] at z35
          refine b_125_59 _ _ _ ?_
          refine b_125_60 _ _ _ (by first | assumption | (exact mL_get (by decide)) | (rw [mL_len]; decide) | (simp only [mL_set]; exact mL_get (by decide)) | (simp only [mL_set, mL_len]; decide) | (exact va_eq) | (exact (va_ne (by omega)).trans (by assumption)) | (exact (va_ne (by omega)).trans va_eq) | (exact (va_ne (by omega)).trans ((va_ne (by omega)).trans (by assumption))) | (exact (va_ne (by omega)).trans ((va_ne (by omega)).trans ((va_ne (by omega)).trans (by assumption)))) | rfl | (exact Or.inl rfl) | (exact Or.inr rfl) | omega | (exact Nat.le_of_ble_eq_true rfl) | decide | (exact ⟨by decide, rfl, by decide⟩)) ?_
          rw [decide_eq_false (Int64.not_le.mpr (lg_gt.mp z35))] at K
          exact K
        · intro z35
          rw [hv, htm] at z35
          refine b_125_55 _ _ _ ?_
          refine b_125_60 _ _ _ (by first | assumption | (exact mL_get (by decide)) | (rw [mL_len]; decide) | (simp only [mL_set]; exact mL_get (by decide)) | (simp only [mL_set, mL_len]; decide) | (exact va_eq) | (exact (va_ne (by omega)).trans (by assumption)) | (exact (va_ne (by omega)).trans va_eq) | (exact (va_ne (by omega)).trans ((va_ne (by omega)).trans (by assumption))) | (exact (va_ne (by omega)).trans ((va_ne (by omega)).trans ((va_ne (by omega)).trans (by assumption)))) | rfl | (exact Or.inl rfl) | (exact Or.inr rfl) | omega | (exact Nat.le_of_ble_eq_true rfl) | decide | (exact ⟨by decide, rfl, by decide⟩)) ?_
          rw [decide_eq_true (Int64.not_lt.mp (fun h => z35 (lg_gt.mpr h)))] at K
          exact K
    · intro z11
      first | (exact absurd z11 (by decide)) | (exact absurd (by decide) z11) | (exact absurd rfl z11) | (exact absurd z11 (of_nn (by omega))) | (exact absurd (of_np (by omega)) z11) | omega
  · have hk : a.AI 2 3 0 S.at = 6 := hrow.1 0 (by decide) (by decide)
    rw [if_neg (by decide), if_neg (by decide)] at K
    refine b_125_0 _ _ _ (by first | (exact hc_o (by first | assumption | (exact ⟨by decide, rfl⟩))) | assumption | (exact (hc_far (by omega)).trans (by assumption))) (by omega) (by first | rfl | assumption) (by first | (exact hc_o (by first | assumption | (exact ⟨by decide, rfl⟩))) | assumption | (exact (hc_far (by omega)).trans (by assumption))) (by omega) (by first | rfl | assumption) (by first | (exact hc_o (by first | assumption | (exact ⟨by decide, rfl⟩))) | assumption | (exact (hc_far (by omega)).trans (by assumption))) (by omega) ?_
    rw [h0]
    refine ct_kind hn hT.1.1.1 hN8 hm hk ?_
    refine b_125_11 _ _ _ ?_ ?_
    · intro z11
      refine b_125_30 _ _ _ ?_ ?_
      · intro z30
        refine b_125_55 _ _ _ ?_
        refine b_125_60 _ _ _ (by first | assumption | (exact mL_get (by decide)) | (rw [mL_len]; decide) | (simp only [mL_set]; exact mL_get (by decide)) | (simp only [mL_set, mL_len]; decide) | (exact va_eq) | (exact (va_ne (by omega)).trans (by assumption)) | (exact (va_ne (by omega)).trans va_eq) | (exact (va_ne (by omega)).trans ((va_ne (by omega)).trans (by assumption))) | (exact (va_ne (by omega)).trans ((va_ne (by omega)).trans ((va_ne (by omega)).trans (by assumption)))) | rfl | (exact Or.inl rfl) | (exact Or.inr rfl) | omega | (exact Nat.le_of_ble_eq_true rfl) | decide | (exact ⟨by decide, rfl, by decide⟩)) ?_
        exact K
      · intro z30
        first | (exact absurd z30 (by decide)) | (exact absurd (by decide) z30) | (exact absurd rfl z30) | (exact absurd z30 (of_nn (by omega))) | (exact absurd (of_np (by omega)) z30) | omega
    · intro z11
      first | (exact absurd z11 (by decide)) | (exact absurd (by decide) z11) | (exact absurd rfl z11) | (exact absurd z11 (of_nn (by omega))) | (exact absurd (of_np (by omega)) z11) | omega
  · have hk : a.AI 2 3 0 S.at = 7 := hrow.1 0 (by decide) (by decide)
    rw [if_neg (by decide), if_neg (by decide)] at K
    refine b_125_0 _ _ _ (by first | (exact hc_o (by first | assumption | (exact ⟨by decide, rfl⟩))) | assumption | (exact (hc_far (by omega)).trans (by assumption))) (by omega) (by first | rfl | assumption) (by first | (exact hc_o (by first | assumption | (exact ⟨by decide, rfl⟩))) | assumption | (exact (hc_far (by omega)).trans (by assumption))) (by omega) (by first | rfl | assumption) (by first | (exact hc_o (by first | assumption | (exact ⟨by decide, rfl⟩))) | assumption | (exact (hc_far (by omega)).trans (by assumption))) (by omega) ?_
    rw [h0]
    refine ct_kind hn hT.1.1.1 hN8 hm hk ?_
    refine b_125_11 _ _ _ ?_ ?_
    · intro z11
      refine b_125_30 _ _ _ ?_ ?_
      · intro z30
        refine b_125_55 _ _ _ ?_
        refine b_125_60 _ _ _ (by first | assumption | (exact mL_get (by decide)) | (rw [mL_len]; decide) | (simp only [mL_set]; exact mL_get (by decide)) | (simp only [mL_set, mL_len]; decide) | (exact va_eq) | (exact (va_ne (by omega)).trans (by assumption)) | (exact (va_ne (by omega)).trans va_eq) | (exact (va_ne (by omega)).trans ((va_ne (by omega)).trans (by assumption))) | (exact (va_ne (by omega)).trans ((va_ne (by omega)).trans ((va_ne (by omega)).trans (by assumption)))) | rfl | (exact Or.inl rfl) | (exact Or.inr rfl) | omega | (exact Nat.le_of_ble_eq_true rfl) | decide | (exact ⟨by decide, rfl, by decide⟩)) ?_
        exact K
      · intro z30
        first | (exact absurd z30 (by decide)) | (exact absurd (by decide) z30) | (exact absurd rfl z30) | (exact absurd z30 (of_nn (by omega))) | (exact absurd (of_np (by omega)) z30) | omega
    · intro z11
      first | (exact absurd z11 (by decide)) | (exact absurd (by decide) z11) | (exact absurd rfl z11) | (exact absurd z11 (of_nn (by omega))) | (exact absurd (of_np (by omega)) z11) | omega
theorem ca_set {kd nd : Int32} (hn : 575 ≤ n) (hl : l < 104) (K : Q (.inl (some (.int 1))) (n, sl, hc (((a.sAI 11 54 7 (upd (a.AI 11 54 7) l kd)).sAL 11 54 8 (vp_updL (a.AL 11 54 8) l v)).sAI 11 54 9 (upd (a.AI 11 54 9) l nd)) f0)) : mi_W d 126 0 (mi_en 6 [.ref 54, .int (Int32.ofNat l), .int kd, .long v, .int nd]) [] (n, sl, hc a f0) Q := by
  have hix := ix_of (w := l) (m := 104) (by omega) (by omega)
  refine b_126_0 _ _ _ _ _ _ _ _ _ _ _ _ (by first | (exact hc_o (by first | assumption | (exact ⟨by decide, rfl⟩))) | assumption | (exact (hc_far (by omega)).trans (by assumption))) (by omega) (by first | rfl | assumption) (by first | (exact hc_ai (by omega) (by first | assumption | (exact (ht9 (by assumption)).2.1) | (exact (ht9 (by assumption)).2.2.1) | (exact (ht9 (by assumption)).2.2.2) | rfl) (by decide)) | assumption | (exact (hc_far (by omega)).trans (by assumption))) (by omega) (by first | assumption | (exact ix_of (by omega) (by omega)) | (exact ⟨by decide, rfl, by decide⟩)) (by first | (exact (congrFun (hw_AI (by omega) (by first | assumption | (exact (ht9 (by assumption)).2.1) | (exact (ht9 (by assumption)).2.2.1) | (exact (ht9 (by assumption)).2.2.2) | rfl) (by decide)) _).trans (hc_o (by first | assumption | (exact ⟨by decide, rfl⟩)))) | assumption | (exact (hc_far (by omega)).trans (by assumption))) (by omega) (by first | rfl | assumption) (by first | (exact (congrFun (hw_AI (by omega) (by first | assumption | (exact (ht9 (by assumption)).2.1) | (exact (ht9 (by assumption)).2.2.1) | (exact (ht9 (by assumption)).2.2.2) | rfl) (by decide)) _).trans (hc_al (by omega) (by first | assumption | (exact (ht9 (by assumption)).2.1) | (exact (ht9 (by assumption)).2.2.1) | (exact (ht9 (by assumption)).2.2.2) | rfl))) | assumption | (exact (hc_far (by omega)).trans (by assumption))) (by omega) (by first | assumption | (exact ix_of (by omega) (by omega)) | (exact ⟨by decide, rfl, by decide⟩)) (by first | (exact (congrFun (hw_2 (hw_AI (by omega) (by first | assumption | (exact (ht9 (by assumption)).2.1) | (exact (ht9 (by assumption)).2.2.1) | (exact (ht9 (by assumption)).2.2.2) | rfl) (by decide)) (hw_AL (by omega) (by first | assumption | (exact (ht9 (by assumption)).2.1) | (exact (ht9 (by assumption)).2.2.1) | (exact (ht9 (by assumption)).2.2.2) | rfl))) _).trans (hc_o (by first | assumption | (exact ⟨by decide, rfl⟩)))) | assumption | (exact (hc_far (by omega)).trans (by assumption))) (by omega) (by first | rfl | assumption) (by first | (exact (congrFun (hw_2 (hw_AI (by omega) (by first | assumption | (exact (ht9 (by assumption)).2.1) | (exact (ht9 (by assumption)).2.2.1) | (exact (ht9 (by assumption)).2.2.2) | rfl) (by decide)) (hw_AL (by omega) (by first | assumption | (exact (ht9 (by assumption)).2.1) | (exact (ht9 (by assumption)).2.2.1) | (exact (ht9 (by assumption)).2.2.2) | rfl))) _).trans (hc_ai (by omega) (by first | assumption | (exact (ht9 (by assumption)).2.1) | (exact (ht9 (by assumption)).2.2.1) | (exact (ht9 (by assumption)).2.2.2) | rfl) (by decide))) | assumption | (exact (hc_far (by omega)).trans (by assumption))) (by omega) (by first | assumption | (exact ix_of (by omega) (by omega)) | (exact ⟨by decide, rfl, by decide⟩)) ?_
  refine hw_Q (hw_2 (hw_2 (hw_AI (by omega) (by first | assumption | (exact (ht9 (by assumption)).2.1) | (exact (ht9 (by assumption)).2.2.1) | (exact (ht9 (by assumption)).2.2.2) | rfl) (by decide)) (hw_AL (by omega) (by first | assumption | (exact (ht9 (by assumption)).2.1) | (exact (ht9 (by assumption)).2.2.1) | (exact (ht9 (by assumption)).2.2.2) | rfl))) (hw_AI (by omega) (by first | assumption | (exact (ht9 (by assumption)).2.1) | (exact (ht9 (by assumption)).2.2.1) | (exact (ht9 (by assumption)).2.2.2) | rfl) (by decide))) ?_
  exact K
theorem ca_in0 (hn : 575 ≤ n) (K : Q (.inl none) (n, sl, hc (a.sI 6 55 5 0) f0)) : mi_W (d + 1) 130 0 (mi_en 4 [.ref 54, .int (-1), .long v]) [] (n, sl, hc a f0) Q := by
  refine b_130_0 _ _ _ (by first | (exact hc_o (by first | assumption | (exact ⟨by decide, rfl⟩))) | assumption | (exact (hc_far (by omega)).trans (by assumption))) (by omega) (by first | rfl | assumption) (by first | (exact hc_o (by first | assumption | (exact ⟨by decide, rfl⟩))) | assumption | (exact (hc_far (by omega)).trans (by assumption))) (by omega) (Nat.le_of_ble_eq_true rfl) (by first | (exact (congrFun (hw_I (by first | assumption | (exact ⟨by decide, rfl⟩)) (by decide)) _).trans (hc_o (by first | assumption | (exact ⟨by decide, rfl⟩)))) | assumption | (exact (hc_far (by omega)).trans (by assumption))) (by omega) (by first | rfl | assumption) (by first | (exact (congrFun (hw_I (by first | assumption | (exact ⟨by decide, rfl⟩)) (by decide)) _).trans (hc_o (by first | assumption | (exact ⟨by decide, rfl⟩)))) | assumption | (exact (hc_far (by omega)).trans (by assumption))) (by omega) ?_
  refine hw_W (hw_I (by first | assumption | (exact ⟨by decide, rfl⟩)) (by decide)) ?_
  refine cv_has0 hn ?_
  refine b_130_16 _ _ _ ?_ ?_
  · intro z16
    refine b_130_64 _ _ _ ?_
    exact K
  · intro z16
    first | (exact absurd z16 (by decide)) | (exact absurd (by decide) z16) | (exact absurd rfl z16) | (exact absurd z16 (of_nn (by omega))) | (exact absurd (of_np (by omega)) z16) | omega
theorem ca_in (hn : 575 ≤ n) (hT : cTb a N BN tb bd) (ha : mz_a tb N m) (K : ∀ a', (∀ c r k, ¬ (c = 6 ∧ r = 55) → a'.I c r k = a.I c r k ∧ a'.L c r k = a.L c r k ∧ a'.AI c r k = a.AI c r k ∧ a'.AL c r k = a.AL c r k) → a'.R = a.R → a'.I 6 55 5 = 1 → cIn a' 55 0 (ma_in tb m v) → Q (.inl none) (n, sl, hc a' f0)) : mi_W (d + 1) 130 0 (mi_en 4 [.ref 54, .int (Int32.ofNat m), .long v]) [] (n, sl, hc a f0) Q := by
  have hm := ha.1
  have hN8 := hT.1.1.2
  have hrow := (hT.1.2.1 m (Nat.zero_le _) hm).1
  have ho := mz_so3 ⟨(tb m).1, mz_so33 ha.2.1 (by decide)⟩ ha.2.1
  dsimp only at ho
  have had := ha.2.2.1
  have hix := ix_of (w := m) (m := 800) (by omega) (by omega)
  have h0 : a.AI 2 3 0 m = Int32.ofNat ((tb m).1 + 1) := by
    refine (hrow.1 0 (by decide) (by decide)).trans ?_
    unfold cz_f
    rcases ho with h | h | h <;> rw [h] <;> rfl
  refine b_130_0 _ _ _ (by first | (exact hc_o (by first | assumption | (exact ⟨by decide, rfl⟩))) | assumption | (exact (hc_far (by omega)).trans (by assumption))) (by omega) (by first | rfl | assumption) (by first | (exact hc_o (by first | assumption | (exact ⟨by decide, rfl⟩))) | assumption | (exact (hc_far (by omega)).trans (by assumption))) (by omega) (Nat.le_of_ble_eq_true rfl) (by first | (exact (congrFun (hw_I (by first | assumption | (exact ⟨by decide, rfl⟩)) (by decide)) _).trans (hc_o (by first | assumption | (exact ⟨by decide, rfl⟩)))) | assumption | (exact (hc_far (by omega)).trans (by assumption))) (by omega) (by first | rfl | assumption) (by first | (exact (congrFun (hw_I (by first | assumption | (exact ⟨by decide, rfl⟩)) (by decide)) _).trans (hc_o (by first | assumption | (exact ⟨by decide, rfl⟩)))) | assumption | (exact (hc_far (by omega)).trans (by assumption))) (by omega) ?_
  refine hw_W (hw_I (by first | assumption | (exact ⟨by decide, rfl⟩)) (by decide)) ?_
  refine cv_has hn hT.1.1.1 hN8 (by omega) (fun _ => ?_) (fun h => ?_)
  · refine b_130_16 _ _ _ ?_ ?_
    · intro z16
      first | (exact absurd z16 (by decide)) | (exact absurd (by decide) z16) | (exact absurd rfl z16) | (exact absurd z16 (of_nn (by omega))) | (exact absurd (of_np (by omega)) z16) | omega
    · intro z16
      refine b_130_19 _ _ _ _ _ _ _ _ _ _ _ _ _ _ _ (by first | (exact hc_o (by first | assumption | (exact ⟨by decide, rfl⟩))) | assumption | (exact (hc_far (by omega)).trans (by assumption))) (by omega) (by first | rfl | assumption) (by first | (exact hc_o (by first | assumption | (exact ⟨by decide, rfl⟩))) | assumption | (exact (hc_far (by omega)).trans (by assumption))) (by omega) (by first | rfl | assumption) (by first | (exact hc_o (by first | assumption | (exact ⟨by decide, rfl⟩))) | assumption | (exact (hc_far (by omega)).trans (by assumption))) (by omega) (by first | rfl | assumption) (by first | (exact hc_ai (by omega) (by first | assumption | (exact (ht9 (by assumption)).2.1) | (exact (ht9 (by assumption)).2.2.1) | (exact (ht9 (by assumption)).2.2.2) | rfl) (by decide)) | assumption | (exact (hc_far (by omega)).trans (by assumption))) (Or.inl (by omega)) (by first | assumption | (exact ix_of (by omega) (by omega)) | (exact ⟨by decide, rfl, by decide⟩)) (by first | (exact hc_o (by first | assumption | (exact ⟨by decide, rfl⟩))) | assumption | (exact (hc_far (by omega)).trans (by assumption))) (by omega) (by first | rfl | assumption) (by first | (exact hc_o (by first | assumption | (exact ⟨by decide, rfl⟩))) | assumption | (exact (hc_far (by omega)).trans (by assumption))) (by omega) (by first | rfl | assumption) (by first | (exact hc_ai (by omega) (by first | assumption | (exact (ht9 (by assumption)).2.1) | (exact (ht9 (by assumption)).2.2.1) | (exact (ht9 (by assumption)).2.2.2) | rfl) (by decide)) | assumption | (exact (hc_far (by omega)).trans (by assumption))) (Or.inl (by omega)) (by first | assumption | (exact ix_of (by omega) (by omega)) | (exact ⟨by decide, rfl, by decide⟩)) (by first | (exact hc_o (by first | assumption | (exact ⟨by decide, rfl⟩))) | assumption | (exact (hc_far (by omega)).trans (by assumption))) (by omega) (by first | rfl | assumption) (by first | (exact hc_o (by first | assumption | (exact ⟨by decide, rfl⟩))) | assumption | (exact (hc_far (by omega)).trans (by assumption))) (by omega) (by first | rfl | assumption) (by first | (exact hc_ai (by omega) (by first | assumption | (exact (ht9 (by assumption)).2.1) | (exact (ht9 (by assumption)).2.2.1) | (exact (ht9 (by assumption)).2.2.2) | rfl) (by decide)) | assumption | (exact (hc_far (by omega)).trans (by assumption))) (Or.inl (by omega)) (by first | assumption | (exact ix_of (by omega) (by omega)) | (exact ⟨by decide, rfl, by decide⟩)) (by first | (exact hc_o (by first | assumption | (exact ⟨by decide, rfl⟩))) | assumption | (exact (hc_far (by omega)).trans (by assumption))) (by omega) (by first | rfl | assumption) (by first | (exact hc_o (by first | assumption | (exact ⟨by decide, rfl⟩))) | assumption | (exact (hc_far (by omega)).trans (by assumption))) (by omega) (by first | rfl | assumption) (by first | (exact hc_ai (by omega) (by first | assumption | (exact (ht9 (by assumption)).2.1) | (exact (ht9 (by assumption)).2.2.1) | (exact (ht9 (by assumption)).2.2.2) | rfl) (by decide)) | assumption | (exact (hc_far (by omega)).trans (by assumption))) (Or.inl (by omega)) (by first | assumption | (exact ix_of (by omega) (by omega)) | (exact ⟨by decide, rfl, by decide⟩)) (by first | (exact hc_o (by first | assumption | (exact ⟨by decide, rfl⟩))) | assumption | (exact (hc_far (by omega)).trans (by assumption))) (by omega) ?_
      refine ci_add (c := 0) hn (Or.inr rfl) I_at (by decide) ?_
      refine b_130_63 _ _ _ ?_
      refine b_130_64 _ _ _ ?_
      refine K _ (fun c r k hc => ?_) rfl ?_ ?_
      · refine ⟨?_, rfl, ?_, ?_⟩
        · exact (mh_u_x (fun e => hc ⟨e.1, e.2.1⟩)).trans (mh_u_x (fun e => hc ⟨e.1, e.2.1⟩))
        · exact (mh_u_x (fun e => hc ⟨e.1, e.2.1⟩)).trans ((mh_u_x (fun e => hc ⟨e.1, e.2.1⟩)).trans ((mh_u_x (fun e => hc ⟨e.1, e.2.1⟩)).trans (mh_u_x (fun e => hc ⟨e.1, e.2.1⟩))))
        · exact mh_u_x (fun e => hc ⟨e.1, e.2.1⟩)
      · show (a.sI 6 55 5 0).I 6 55 5 + 1 = 1
        rw [I_at]
        rfl
      · refine ⟨ho, ?_, fun h9 => ⟨?_, ?_⟩, fun h7 => ⟨?_, ?_, ?_, ?_⟩, ?_⟩
        · show upd (a.AI 6 55 0) 0 (a.AI 2 3 0 m) 0 = _
          rw [upd_at]
          exact h0
        · show upd (a.AI 6 55 1) 0 (a.AI 2 3 4 m) 0 = _
          rw [upd_at]
          refine (hrow.1 4 (by decide) (by decide)).trans ?_
          unfold cz_f
          rcases ho with h | h | h
          · rw [h]
            rfl
          · rw [h]
            rfl
          · exact absurd h h9
        · have := had.1 (by rcases ho with h | h | h; rw [h]; decide; rw [h]; decide; exact absurd h h9)
          show (tb m).2.1 ≤ 800
          omega
        · show upd (a.AI 6 55 2) 0 (a.AI 2 3 5 m) 0 = _
          rw [upd_at]
          refine (hrow.1 5 (by decide) (by decide)).trans ?_
          unfold cz_f
          rw [show (tb m).1 = 7 from h7]
          rfl
        · have := had.2.1 (by rw [show (tb m).1 = 7 from h7]; decide)
          show (tb m).2.2.1 ≤ 800
          omega
        · show upd (a.AI 6 55 3) 0 (a.AI 2 3 6 m) 0 = _
          rw [upd_at]
          refine (hrow.1 6 (by decide) (by decide)).trans ?_
          unfold cz_f
          rw [show (tb m).1 = 7 from h7]
          rfl
        · have := had.2.2 (by rw [show (tb m).1 = 7 from h7]; decide)
          show (tb m).2.2.2.1 ≤ 800
          omega
        · show vp_updL (a.AL 6 55 4) 0 v 0 = v
          rw [upL_at]
  · exact absurd hm h
end
