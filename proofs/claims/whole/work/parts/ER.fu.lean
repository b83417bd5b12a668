/-! the second object: the numbers of a choice -/
/-- between two steps on one level -/
def gLc (n : Nat) (b : mg_A) (w u : Nat) (pl : Nat → Nat) (p0 : Nat) (S : mv_S) (N BN : Nat) (tb : Nat → ms_N) (bd : Nat → Int64 × Int64) (n1 sl1 : Nat) (b1 : mg_A) (u1 : Nat) (pl1 : Nat → Nat) (c1 : Nat) : Prop := gCx n1 sl1 b1 w u1 pl1 c1 N BN tb bd ∧ (mg_S b1 p0 S ∧ p0 + 5 < n1 ∧ (∀ i, w ≤ i → i < u1 → ¬ p0 = pl1 i)) ∧ w < u1 ∧ c1 ≤ 5000 ∧ gAf w u1 pl1 b b1 ∧ u ≤ u1 ∧ ((∀ i, i < u → pl1 i = pl i) ∧ ∀ i, u ≤ i → i < u1 → n ≤ pl1 i) ∧ n ≤ n1 ∧ (∀ q, q < n → b1.D q = b.D q) ∧ b1.I 505 75 = b.I 505 75
section
variable {d n sl N BN w u i k q kd m c K p0 n' sl' n1 sl1 n2 sl2 u1 c1 M F a t j o : Nat} {b b0 b1 b2 b' : mg_A} {f0 : Nat → mi_C} {pl pl1 : Nat → Nat} {tb : Nat → ms_N} {bd : Nat → Int64 × Int64} {S : mv_S} {r r1 r2 : ma_R} {Q : (Option Value ⊕ Nat) → mi_H → Prop} {v T : Int64} {I : mv_I} {x : Int32} {go : mv_S → Nat → ma_R} {s : ma_P}
theorem ma_st_c (hg : ∀ S c, c ≤ 5000 → (go S c).1 = 0 → (go S c).2.1 ≤ 5000) (h : (ma_st tb bd go S s c).1 = 0) : (ma_st tb bd go S s c).2.1 ≤ 5000 := by
  by_cases h5 : 5000 < c + 1
  · rw [ma_st_f h5] at h
    exact absurd h (show ¬ (2 : Nat) = 0 by decide)
  · cases ho : ma_ou tb bd S s with
    | error x =>
      rw [ma_st_e h5 ho]
      show c + 1 ≤ 5000
      omega
    | ok Z =>
      by_cases hw : 0 < Z.ws.1
      · rw [ma_st_w h5 ho hw] at h
        exact absurd h (show ¬ (1 : Nat) = 0 by decide)
      · rw [ma_st_g h5 ho hw] at h ⊢
        exact hg Z.S (c + 1) (by omega) h
theorem ma_tr_c (hg : ∀ S c, c ≤ 5000 → (go S c).1 = 0 → (go S c).2.1 ≤ 5000) : ∀ (l : List ma_P) (c : Nat), c ≤ 5000 → (ma_tr tb bd go S l c).1 = 0 → (ma_tr tb bd go S l c).2.1 ≤ 5000 := by
  intro l
  induction l with
  | nil =>
    intro c hc _
    exact hc
  | cons s l ih =>
    intro c hc h
    rw [ma_tr_s] at h ⊢
    by_cases h0 : (ma_st tb bd go S s c).1 = 0
    · rw [if_pos h0] at h ⊢
      exact ih _ (ma_st_c hg h0) h
    · rw [if_neg h0] at h
      exact absurd h h0
theorem ma_go_c : ∀ (k : Nat) (S : mv_S) (c : Nat), c ≤ 5000 → (ma_go tb bd k S c).1 = 0 → (ma_go tb bd k S c).2.1 ≤ 5000 := by
  intro k
  induction k with
  | zero =>
    intro S c hc _
    exact hc
  | succ k ih =>
    intro S c hc h
    exact ma_tr_c ih _ c hc h
theorem gLc.step (h : gLc n b w u pl p0 S N BN tb bd n1 sl1 b1 u1 pl1 c1) (hP : gPo n1 b1 w u1 pl1 N BN tb bd r n2 sl2 b2) (hr : r.1 = 0) (hc : r.2.1 ≤ 5000) : ∃ u2 pl2, gLc n b w u pl p0 S N BN tb bd n2 sl2 b2 u2 pl2 r.2.1 := by
  obtain ⟨hC, ⟨hS, hpn, hp0⟩, hwu, -, hf, hu, hp, hn, hD, h75⟩ := h
  obtain ⟨u2, pl2, gC, gf, gu, gp, gn, gD, gF, -⟩ := hP
  have hp2 : ∀ i, w ≤ i → i < u2 → ¬ p0 = pl2 i := fun i h1 h2 => by
    by_cases h3 : i < u1
    · rw [gp.1 i h3]
      exact hp0 i h1 h3
    · have := gp.2 i (by omega) h2
      omega
  refine ⟨u2, pl2, gC, ⟨gf.st hp2 (mg_o_D hS.1 gD hpn) hS, by omega, hp2⟩, by omega, hc, hf.trans gf gu gp.1, by omega, ⟨fun i hi => (gp.1 i (by omega)).trans (hp.1 i hi), fun i h1 h2 => ?_⟩, by omega, fun q hq => (gD q (by omega)).trans (hD q hq), (gF.1 (by rw [hr]; decide)).trans h75⟩
  by_cases h3 : i < u1
  · rw [gp.1 i h3]
    exact hp.2 i h1 h3
  · have := gp.2 i (by omega) h2
    omega
theorem gLc.fin (h : gLc n b w u pl p0 S N BN tb bd n1 sl1 b1 u1 pl1 c1) (hP : gPo n1 b1 w u1 pl1 N BN tb bd r n2 sl2 b2) : gPo n b w u pl N BN tb bd r n2 sl2 b2 := gPo.tr h.2.2.2.2.1 h.2.2.2.2.2.1 h.2.2.2.2.2.2.1 h.2.2.2.2.2.2.2.1 h.2.2.2.2.2.2.2.2.1 h.2.2.2.2.2.2.2.2.2 hP
/-- nothing more to be tried -/
theorem gLc.end' (h : gLc n b w u pl p0 S N BN tb bd n1 sl1 b1 u1 pl1 c1) : gPo n b w u pl N BN tb bd (0, c1, []) n1 sl1 b1 := ⟨u1, pl1, h.1, h.2.2.2.2.1, h.2.2.2.2.2.1, h.2.2.2.2.2.2.1, h.2.2.2.2.2.2.2.1, h.2.2.2.2.2.2.2.2.1, ⟨fun _ => h.2.2.2.2.2.2.2.2.2, fun h => absurd h (show ¬ (0 : Nat) = 1 by decide)⟩, (show (0 : Nat) ≤ 2 by decide)⟩
theorem ma_tt_pre : ∀ (a M F : Nat), a ≤ M → ma_tt bd M F = ma_tt bd a F + ma_tt bd (M - a) (F + a) ∧ ∀ r, ma_at bd M F (ma_tt bd a F + r) = ma_at bd (M - a) (F + a) r := by
  intro a
  induction a with
  | zero =>
    intro M F _
    refine ⟨?_, fun r => ?_⟩
    · show ma_tt bd M F = 0 + ma_tt bd M F
      omega
    · show ma_at bd M F (0 + r) = ma_at bd M F r
      rw [Nat.zero_add]
  | succ a ih =>
    intro M F h
    obtain ⟨M', rfl⟩ : ∃ M', M = M' + 1 := ⟨M - 1, by omega⟩
    obtain ⟨i1, i2⟩ := ih M' (F + 1) (by omega)
    have e1 : ma_tt bd (M' + 1) F = ma_ct (bd F) + ma_tt bd M' (F + 1) := rfl
    have e2 : ma_tt bd (a + 1) F = ma_ct (bd F) + ma_tt bd a (F + 1) := rfl
    have e3 : ∀ r, ma_at bd (M' + 1) F r = if r < ma_ct (bd F) then (bd F).1 + Int64.ofNat r else ma_at bd M' (F + 1) (r - ma_ct (bd F)) := fun _ => rfl
    have e4 : M' + 1 - (a + 1) = M' - a := by omega
    have e5 : F + (a + 1) = F + 1 + a := by omega
    rw [e1, e2, e4, e5]
    refine ⟨by omega, fun r => ?_⟩
    rw [e3, if_neg (by omega), show ma_ct (bd F) + ma_tt bd a (F + 1) + r - ma_ct (bd F) = ma_tt bd a (F + 1) + r by omega]
    exact i2 r
theorem g_numi (IG : gIG f0 N BN tb bd K) (hw : w + (K + 1) = 103) (hS : mv_ok S) (hNd : gNd tb N S (K + 1)) (hNB : mo_NB tb bd S.at) (hm0 : ¬ m = 0) (hmN : m < N) (h8 : (tb m).1 = 8) (hA : (tb m).2.1 < 8) (hFM : F + M ≤ BN) (ha : a < M) (hdd : 4 * K + 123 ≤ d) (K8 : ∀ n1 sl1 b1 u1 pl1 c1 v o8, gLc n b w u pl p0 S N BN tb bd n1 sl1 b1 u1 pl1 c1 → (∀ n' sl' b', gPo n b w u pl N BN tb bd (ma_tr tb bd (ma_go tb bd K) S (ma_cl bd m M F (ma_tt bd M F - ma_tt bd (a + 1) F) (ma_tt bd (a + 1) F)) c1) n' sl' b' → Q (.inl (some (.int (Int32.ofNat (ma_tr tb bd (ma_go tb bd K) S (ma_cl bd m M F (ma_tt bd M F - ma_tt bd (a + 1) F) (ma_tt bd (a + 1) F)) c1).1)))) (n', sl', hd b' f0)) → mi_W d 199 8 [some (.ref 505), some (.ref p0), some (.ref (pl w)), some (.int (Int32.ofNat m)), some (.int (Int32.ofNat (F + a + 1))), some (.long v), none, o8] [] (n1, sl1, hd b1 f0) Q) (hwu0 : w < u) : ∀ (q o n1 sl1 : Nat) (b1 : mg_A) (u1 : Nat) (pl1 : Nat → Nat) (c1 : Nat) (o8 : Option Value), o + q = ma_ct (bd (F + a)) → gLc n b w u pl p0 S N BN tb bd n1 sl1 b1 u1 pl1 c1 → (∀ n' sl' b', gPo n b w u pl N BN tb bd (ma_tr tb bd (ma_go tb bd K) S (ma_cl bd m M F (ma_tt bd M F - (ma_tt bd a F + o)) (ma_tt bd a F + o)) c1) n' sl' b' → Q (.inl (some (.int (Int32.ofNat (ma_tr tb bd (ma_go tb bd K) S (ma_cl bd m M F (ma_tt bd M F - (ma_tt bd a F + o)) (ma_tt bd a F + o)) c1).1)))) (n', sl', hd b' f0)) → mi_W d 199 35 [some (.ref 505), some (.ref p0), some (.ref (pl w)), some (.int (Int32.ofNat m)), some (.int (Int32.ofNat (F + a))), some (.long ((bd (F + a)).1 + Int64.ofNat o)), none, o8] [] (n1, sl1, hd b1 f0) Q := by
  obtain ⟨dd, rfl⟩ : ∃ dd, d = dd + 1 := ⟨d - 1, by omega⟩
  have e4 := ma_tt_pre (bd := bd) a M F (by omega)
  have e5 := ma_tt_pre (bd := bd) (a + 1) M F (by omega)
  obtain ⟨M', hM'⟩ : ∃ M', M - a = M' + 1 := ⟨M - a - 1, by omega⟩
  have e6 : ma_tt bd (M - a) (F + a) = ma_ct (bd (F + a)) + ma_tt bd M' (F + a + 1) := by rw [hM']; rfl
  have e7 : ∀ r, ma_at bd (M - a) (F + a) r = if r < ma_ct (bd (F + a)) then (bd (F + a)).1 + Int64.ofNat r else ma_at bd M' (F + a + 1) (r - ma_ct (bd (F + a))) := fun r => by rw [hM']; rfl
  have e8 : ma_tt bd (a + 1) F = ma_tt bd a F + ma_ct (bd (F + a)) := by
    have h1 := e5.1
    have h2 : M - (a + 1) = M' := by omega
    rw [h2, show F + (a + 1) = F + a + 1 by omega] at h1
    have := e4.1
    omega
  intro q
  induction q with
  | zero =>
    intro o n1 sl1 b1 u1 pl1 c1 o8 ho hL KK
    obtain ⟨⟨hT, -⟩, -⟩ := id hL
    have hn := hL.1.2.2.1.2.2.2.2.2.2.2
    have hb := hT.2.1
    have hb42 := hb.1
    have hbo := hT.2.2 (F + a)
    obtain ⟨c1', c2', c3'⟩ := ma_ct_i hbo
    have hjj := hb.2.1 (F + a) (by omega)
    have hixj := ix_of (w := F + a) (m := 4200) (by omega) (by omega)
    have ho' : o = ma_ct (bd (F + a)) := by omega
    have hvi : ((bd (F + a)).1 + Int64.ofNat o).toInt = (bd (F + a)).1.toInt + o := by
      rw [Int64.toInt_add, ofN_i (by omega)]
      have := hbo.1
      have := hbo.2.1
      have := hbo.2.2
      exact bm64 (by omega) (by omega)
    have hgt : 0 < lg_cmp ((bd (F + a)).1 + Int64.ofNat o) (b1.J 519 (F + a)) := lg_gt.mpr (Int64.lt_iff_toInt_lt.mpr (by
      rw [hjj.2, hvi]
      have := hbo.2.1
      unfold ma_ct at ho'
      omega))
    rw [show ma_tt bd a F + o = ma_tt bd (a + 1) F by omega] at KK
    refine b_199_35 _ _ _ _ _ _ (by first | (exact hd_9) | assumption) (by omega) (by exact mL_get (by decide)) (by first | (exact hd_J (by omega) rfl) | (exact hd_L1 (by assumption)) | (exact hd_L2 (by assumption)) | (exact hd_L3 (by assumption)) | assumption) (by omega) (by first | assumption | (exact ix_of (by omega) (by omega)) | (exact ⟨by decide, rfl, by decide⟩)) ?_ ?_
    · intro z35
      refine b_199_99 _ _ _ ?_
      rw [of_succ]
      exact K8 n1 sl1 b1 u1 pl1 c1 _ _ hL KK
    · intro z35
      exact absurd hgt z35
  | succ q ih =>
    intro o n1 sl1 b1 u1 pl1 c1 o8 ho hL KK
    obtain ⟨hC, ⟨hSt, hp0n, hp0⟩, hwu, hc, -, hu, hp, -⟩ := id hL
    obtain ⟨hT, -⟩ := id hC
    have hn := hC.2.2.1.2.2.2.2.2.2.2
    have hb := hT.2.1
    have hb42 := hb.1
    have hbo := hT.2.2 (F + a)
    have hplw : pl1 w = pl w := hp.1 w hwu0
    obtain ⟨c1', c2', c3'⟩ := ma_ct_i hbo
    have hjj := hb.2.1 (F + a) (by omega)
    have hixj := ix_of (w := F + a) (m := 4200) (by omega) (by omega)
    have hN8 := hT.1.1
    have hixm := ix_of (w := m) (m := 800) (by omega) (by omega)
    have hrow := hT.1.2.1 m hmN
    have w1 : b1.I 510 m = Int32.ofNat (tb m).2.1 := hrow.2.1 (by rw [h8]; decide)
    have hvi : ((bd (F + a)).1 + Int64.ofNat o).toInt = (bd (F + a)).1.toInt + o := by
      rw [Int64.toInt_add, ofN_i (by omega)]
      have := hbo.1
      have := hbo.2.1
      have := hbo.2.2
      exact bm64 (by omega) (by omega)
    have hng : ¬ 0 < lg_cmp ((bd (F + a)).1 + Int64.ofNat o) (b1.J 519 (F + a)) := fun h => by
      have := Int64.lt_iff_toInt_lt.mp (lg_gt.mp h)
      rw [hjj.2, hvi] at this
      unfold ma_ct at ho
      omega
    have hat : ma_at bd M F (ma_tt bd a F + o) = (bd (F + a)).1 + Int64.ofNat o := by
      rw [e4.2, e7, if_pos (by omega)]
    have hlt : ma_tt bd a F + o < ma_tt bd M F := by
      have := e4.1
      omega
    have hsucc : (bd (F + a)).1 + Int64.ofNat o + 1 = (bd (F + a)).1 + Int64.ofNat (o + 1) := by
      rw [Int64.add_assoc, show (Int64.ofNat (o + 1)) = Int64.ofNat o + 1 from Int64.ofNat_add o 1]
    rw [ma_cl_s hlt, hat, ma_tr_s, Nat.add_assoc] at KK
    generalize hvv : (bd (F + a)).1 + Int64.ofNat o = v at *
    refine b_199_35 _ _ _ _ _ _ (by first | (exact hd_9) | assumption) (by omega) (by exact mL_get (by decide)) (by first | (exact hd_J (by omega) rfl) | (exact hd_L1 (by assumption)) | (exact hd_L2 (by assumption)) | (exact hd_L3 (by assumption)) | assumption) (by omega) (by first | assumption | (exact ix_of (by omega) (by omega)) | (exact ⟨by decide, rfl, by decide⟩)) ?_ ?_
    · intro z35
      exact absurd z35 hng
    · intro z35
      refine b_199_48 _ _ _ _ _ _ (by first | (exact hd_9) | assumption) (by omega) (by rw [mL_len]; decide) (by first | (exact (congrFun (gw_X (by decide)) _).trans (hd_9)) | assumption) (by omega) (by exact mL_get (by decide)) (by first | (exact (congrFun (gw_X (by decide)) _).trans (hd_I (by omega) rfl)) | assumption) (Or.inl (by omega)) (by first | assumption | (exact ix_of (by omega) (by omega)) | (exact ⟨by decide, rfl, by decide⟩)) (by first | (exact (congrFun (gw_X (by decide)) _).trans (hd_9)) | assumption) (by omega) ?_
      refine hw_W (gw_X (by decide)) ?_
      rw [show (b1.sX 59 0).I 510 m = Int32.ofNat (tb m).2.1 from w1]
      refine g_input hn (show (b1.sX 59 0).I 505 59 = 0 from rfl) (fun b5 f5 i1 i2 i3 i4 i5 => ?_)
      refine b_199_69 _ _ _ (by first | (exact hd_9) | assumption) (by omega) ?_
      rw [← mz_lk0 hm0, ← hplw]
      refine g_inp (kd := 2) (lg := false) (v := v) IG hw hwu hc hC ((gAf.sX (k := 59) (by omega)).trans (f5.1 w u1 pl1) (Nat.le_refl _) (fun _ _ => rfl)) f5.2.1 f5.2.2.1 (fun j h1 h2 => (f5.2.2.2.2.2.2.1 j h2).trans (va_ne (f := b1.I 505) h2)) ?_ hp0n hp0 hS hNd hNB ?_ (by decide) (ma_ou_1 hm0 (fun h => Bool.noConfusion h.2) (by decide)) (by omega) (fun n' sl' b' hP => ?_)
      · unfold mg_S
        rw [f5.2.2.1, f5.2.2.2.2.1, f5.2.2.2.2.2.1]
        exact hSt
      · unfold ma_in
        rw [h8]
        exact ⟨Or.inr (Or.inl rfl), i1, fun _ => ⟨i2, by show (tb m).2.1 ≤ 800; omega⟩, fun h => absurd (show (8 : Nat) = 7 from h) (by decide), i5⟩
      · rw [hplw, mz_lk0 hm0]
        by_cases h0 : (ma_st tb bd (ma_go tb bd K) S (2, v, m, false) c1).1 = 0
        · rw [if_pos h0] at KK
          obtain ⟨u2, pl2, hL2⟩ := hL.step hP h0 (ma_st_c (ma_go_c K) h0)
          rw [h0]
          refine b_199_80 _ _ _ ?_ ?_
          · intro z80
            refine b_199_90 _ _ _ ?_
            rw [hsucc]
            exact ih (o + 1) n' sl' b' u2 pl2 _ _ (by omega) hL2 KK
          · intro z80
            exact absurd rfl z80
        · rw [if_neg h0] at KK
          have h2 : (ma_st tb bd (ma_go tb bd K) S (2, v, m, false) c1).1 ≤ 2 := hP.elim (fun _ h => h.elim (fun _ h => h.2.2.2.2.2.2.2))
          refine b_199_80 _ _ _ ?_ ?_
          · intro z80
            exact absurd ((of_eq (b := 0) (by omega) (by omega)).mp z80) h0
          · intro z80
            refine b_199_87 _ _ _ ?_
            exact KK n' sl' b' (hL.fin hP)
theorem g_numbers (IG : gIG f0 N BN tb bd K) (hw : w + (K + 1) = 103) (hS : mv_ok S) (hNd : gNd tb N S (K + 1)) (hNB : mo_NB tb bd S.at) (hm0 : ¬ m = 0) (hmN : m < N) (hA : (tb m).2.1 < 8) {AA BB DD xx yy zz : Nat} {uu : Int64} (hcm : tb m = (8, AA, BB, DD, uu, xx, yy, zz, M, F)) (hdd : 4 * K + 123 ≤ d) (hwu0 : w < u) : ∀ (t a n1 sl1 : Nat) (b1 : mg_A) (u1 : Nat) (pl1 : Nat → Nat) (c1 : Nat) (o6 o7 o8 : Option Value), a + t = M → gLc n b w u pl p0 S N BN tb bd n1 sl1 b1 u1 pl1 c1 → (∀ n' sl' b', gPo n b w u pl N BN tb bd (ma_tr tb bd (ma_go tb bd K) S (ma_cl bd m M F (ma_tt bd M F - ma_tt bd a F) (ma_tt bd a F)) c1) n' sl' b' → Q (.inl (some (.int (Int32.ofNat (ma_tr tb bd (ma_go tb bd K) S (ma_cl bd m M F (ma_tt bd M F - ma_tt bd a F) (ma_tt bd a F)) c1).1)))) (n', sl', hd b' f0)) → mi_W d 199 8 [some (.ref 505), some (.ref p0), some (.ref (pl w)), some (.int (Int32.ofNat m)), some (.int (Int32.ofNat (F + a))), o6, o7, o8] [] (n1, sl1, hd b1 f0) Q := by
  have h8 : (tb m).1 = 8 := by rw [hcm]
  intro t
  induction t with
  | zero =>
    intro a n1 sl1 b1 u1 pl1 c1 o6 o7 o8 ha hL KK
    obtain ⟨⟨hT, -⟩, -⟩ := id hL
    have hn := hL.1.2.2.1.2.2.2.2.2.2.2
    have hb := hT.2.1
    have hFM := hb.2.2 m h8
    rw [hcm] at hFM
    dsimp only at hFM
    have hb42 := hb.1
    have hN8 := hT.1.1
    have hixm := ix_of (w := m) (m := 800) (by omega) (by omega)
    have hrow := hT.1.2.1 m hmN
    rw [hcm] at hrow
    have w13 : b1.I 515 m = Int32.ofNat M := hrow.2.2.2.2.2.2.2.2.2.2.2.2.2.1 (show mz_t 12 8 = true by decide)
    have w14 : b1.I 530 m = Int32.ofNat F := hrow.2.2.2.2.2.2.2.2.2.2.2.2.2.2 (show mz_t 13 8 = true by decide)
    have hsum : b1.I 530 m + b1.I 515 m = Int32.ofNat (F + M) := by
      rw [w13, w14, of_add']
    have haM : a = M := by omega
    rw [haM, Nat.sub_self] at KK
    refine b_199_8 _ _ _ _ _ _ _ _ _ (by first | (exact hd_9) | assumption) (by omega) (by exact mL_get (by decide)) (by first | (exact hd_I (by omega) rfl) | assumption) (Or.inl (by omega)) (by first | assumption | (exact ix_of (by omega) (by omega)) | (exact ⟨by decide, rfl, by decide⟩)) (by first | (exact hd_9) | assumption) (by omega) (by exact mL_get (by decide)) (by first | (exact hd_I (by omega) rfl) | assumption) (Or.inl (by omega)) (by first | assumption | (exact ix_of (by omega) (by omega)) | (exact ⟨by decide, rfl, by decide⟩)) ?_ ?_
    · intro z8
      refine b_199_105 _ _ _ ?_
      exact KK n1 sl1 b1 hL.end'
    · intro z8
      exact absurd ((i_le hsum rfl (by omega) (by omega)).mpr (by omega)) z8
  | succ t ih =>
    intro a n1 sl1 b1 u1 pl1 c1 o6 o7 o8 ha hL KK
    obtain ⟨⟨hT, -⟩, -⟩ := id hL
    have hn := hL.1.2.2.1.2.2.2.2.2.2.2
    have hb := hT.2.1
    have hFM := hb.2.2 m h8
    rw [hcm] at hFM
    dsimp only at hFM
    have hb42 := hb.1
    have hN8 := hT.1.1
    have hixm := ix_of (w := m) (m := 800) (by omega) (by omega)
    have hixj := ix_of (w := F + a) (m := 4200) (by omega) (by omega)
    have hrow := hT.1.2.1 m hmN
    rw [hcm] at hrow
    have w13 : b1.I 515 m = Int32.ofNat M := hrow.2.2.2.2.2.2.2.2.2.2.2.2.2.1 (show mz_t 12 8 = true by decide)
    have w14 : b1.I 530 m = Int32.ofNat F := hrow.2.2.2.2.2.2.2.2.2.2.2.2.2.2 (show mz_t 13 8 = true by decide)
    have hsum : b1.I 530 m + b1.I 515 m = Int32.ofNat (F + M) := by
      rw [w13, w14, of_add']
    have hjj := hb.2.1 (F + a) (by omega)
    have hv0 : (bd (F + a)).1 = (bd (F + a)).1 + Int64.ofNat 0 := by
      rw [show Int64.ofNat 0 = 0 from rfl, Int64.add_zero]
    refine b_199_8 _ _ _ _ _ _ _ _ _ (by first | (exact hd_9) | assumption) (by omega) (by exact mL_get (by decide)) (by first | (exact hd_I (by omega) rfl) | assumption) (Or.inl (by omega)) (by first | assumption | (exact ix_of (by omega) (by omega)) | (exact ⟨by decide, rfl, by decide⟩)) (by first | (exact hd_9) | assumption) (by omega) (by exact mL_get (by decide)) (by first | (exact hd_I (by omega) rfl) | assumption) (Or.inl (by omega)) (by first | assumption | (exact ix_of (by omega) (by omega)) | (exact ⟨by decide, rfl, by decide⟩)) ?_ ?_
    · intro z8
      exact absurd ((i_le hsum rfl (by omega) (by omega)).mp z8) (by omega)
    · intro z8
      refine b_199_26 _ _ _ _ _ _ (by first | (exact hd_9) | assumption) (by omega) (by exact mL_get (by decide)) (by first | (exact hd_J (by omega) rfl) | (exact hd_L1 (by assumption)) | (exact hd_L2 (by assumption)) | (exact hd_L3 (by assumption)) | assumption) (by omega) (by first | assumption | (exact ix_of (by omega) (by omega)) | (exact ⟨by decide, rfl, by decide⟩)) ?_
      rw [hjj.1, hv0]
      exact g_numi IG hw hS hNd hNB hm0 hmN h8 hA (by omega) (by omega) hdd (fun n2 sl2 b2 u2 pl2 c2 v' o8' hL2 KK2 => ih (a + 1) n2 sl2 b2 u2 pl2 c2 _ _ _ (by omega) hL2 KK2) hwu0 (ma_ct (bd (F + a))) 0 n1 sl1 b1 u1 pl1 c1 _ (by omega) hL (by rw [Nat.add_zero]; exact KK)
end
