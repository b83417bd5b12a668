/-! the second object: the steps of an action -/
section
variable {d n sl N BN w u i k q kd m c K p0 n' sl' n1 sl1 n2 sl2 u1 M F a t j o : Nat} {b b0 b1 b2 b' : mg_A} {f0 : Nat → mi_C} {pl pl1 : Nat → Nat} {tb : Nat → ms_N} {bd : Nat → Int64 × Int64} {S : mv_S} {r r1 r2 : ma_R} {Q : (Option Value ⊕ Nat) → mi_H → Prop} {v T : Int64} {I : mv_I} {x : Int32}
theorem sX_self (h : b.I 505 k = x) : b.sX k x = b := by
  have e1 : va_up (b.I 505) k x = b.I 505 := by
    funext i
    by_cases e : i = k
    · rw [e, va_eq]
      exact h.symm
    · rw [va_ne e]
  have e2 : va_up b.I 505 (b.I 505) = b.I := by
    funext i
    by_cases e : i = 505
    · rw [e, va_eq]
    · rw [va_ne e]
  unfold mg_A.sX mg_A.sI
  rw [e1, e2]
  rfl
theorem gPo.eq (h : gPo n b w u pl N BN tb bd r n' sl' b') (h1 : r1.1 = r.1) (h2 : r1.2.1 = r.2.1) (h3 : r.1 = 1 → r1.2.2 = r.2.2) : gPo n b w u pl N BN tb bd r1 n' sl' b' := by
  obtain ⟨u', pl', hC, hf, hu, hp, hn, hD, hF, hr⟩ := h
  refine ⟨u', pl', by rw [h2]; exact hC, hf, hu, hp, hn, hD, ⟨fun h => hF.1 (by rw [← h1]; exact h), fun h => ?_⟩, by rw [h1]; exact hr⟩
  have h' : r.1 = 1 := by rw [← h1]; exact h
  have := hF.2 h'
  rw [h3 h']
  exact this
theorem gPo.tr (f : gAf w u1 pl1 b b1) (hu : u ≤ u1) (hp : (∀ i, i < u → pl1 i = pl i) ∧ ∀ i, u ≤ i → i < u1 → n ≤ pl1 i) (hn : n ≤ n1) (hD : ∀ q, q < n → b1.D q = b.D q) (h75 : b1.I 505 75 = b.I 505 75) (h : gPo n1 b1 w u1 pl1 N BN tb bd r n' sl' b') : gPo n b w u pl N BN tb bd r n' sl' b' := by
  obtain ⟨u', pl', hC, hf, hu', hp', hn', hDD, hF, hr⟩ := h
  refine ⟨u', pl', hC, f.trans hf hu' hp'.1, by omega, ⟨fun i hi => (hp'.1 i (by omega)).trans (hp.1 i hi), fun i h1 h2 => ?_⟩, by omega, fun q hq => (hDD q (by omega)).trans (hD q hq), ⟨fun h => (hF.1 h).trans h75, fun h => ?_⟩, hr⟩
  · by_cases h3 : i < u1
    · rw [hp'.1 i h3]
      exact hp.2 i h1 h3
    · have := hp'.2 i (by omega) h2
      omega
  · obtain ⟨q1, q2, q3, q4⟩ := hF.2 h
    exact ⟨q1, q2, fun i hi => ⟨(q3 i hi).1.trans (f.2.2.2.2.2 i hi).1, (q3 i hi).2.1.trans (f.2.2.2.2.2 i hi).2.1, (q3 i hi).2.2.trans (f.2.2.2.2.2 i hi).2.2⟩, q4⟩
theorem ma_tr_1 {go : mv_S → Nat → ma_R} {s : ma_P} (h : ¬ (ma_st tb bd go S s c).1 = 0) : ma_tr tb bd go S [s] c = ma_st tb bd go S s c := by
  rw [ma_tr_s, if_neg h]
/-- one step, as a list of one -/
theorem ma_tr_o {go : mv_S → Nat → ma_R} {s : ma_P} : (ma_tr tb bd go S [s] c).1 = (ma_st tb bd go S s c).1 ∧ (ma_tr tb bd go S [s] c).2.1 = (ma_st tb bd go S s c).2.1 ∧ ((ma_st tb bd go S s c).1 = 1 → (ma_tr tb bd go S [s] c).2.2 = (ma_st tb bd go S s c).2.2) := by
  by_cases h : (ma_st tb bd go S s c).1 = 0
  · rw [ma_tr_s, if_pos h]
    exact ⟨h.symm, rfl, fun h1 => by rw [h] at h1; cases h1⟩
  · rw [ma_tr_1 h]
    exact ⟨rfl, rfl, fun _ => rfl⟩
/-- an input is put in already -/
theorem g_inp {b5 : mg_A} {lg : Bool} (IG : gIG f0 N BN tb bd K) (hw : w + (K + 1) = 103) (hwu : w < u) (hc : c ≤ 5000) (hC : gCx n sl b w u pl c N BN tb bd) (f5 : gAf w u pl b b5) (eB : b5.B = b.B) (eD : b5.D = b.D) (eX : ∀ j, ¬ j = 46 → ¬ j = 59 → b5.I 505 j = b.I 505 j) (hSt : mg_S b5 p0 S) (hp0n : p0 + 5 < n) (hp0 : ∀ i, w ≤ i → i < u → ¬ p0 = pl i) (hS : mv_ok S) (hNd : gNd tb N S (K + 1)) (hNB : mo_NB tb bd S.at) (hI : gIn b5 0 (ma_in tb m v)) (hkd : kd ≤ 4) (hou : ma_ou tb bd S (kd, v, m, lg) = ma_tx tb bd 1 (ma_in tb m v) S.tm S) (hdd : 4 * K + 122 ≤ d) (KK : ∀ n' sl' b', gPo n b w u pl N BN tb bd (ma_st tb bd (ma_go tb bd K) S (kd, v, m, lg) c) n' sl' b' → Q (.inl (some (.int (Int32.ofNat (ma_st tb bd (ma_go tb bd K) S (kd, v, m, lg) c).1)))) (n', sl', hd b' f0)) : mi_W d 200 0 (mi_en 8 [.ref 505, .ref p0, .ref (pl w), .int (Int32.ofNat kd), .long v, .int (mz_lk m)]) [] (n, sl, hd b5 f0) Q := by
  obtain ⟨hT, h57, hBy, h73, h74⟩ := hC
  rw [ma_st_2, hou] at KK
  have C5 : gCx n sl b5 w u pl c N BN tb bd := ⟨hT.af f5, (eX 57 (by decide) (by decide)).trans h57, hBy.to eB eD, ⟨(eX 73 (by decide) (by decide)).trans h73.1, h73.2⟩, (eX 74 (by decide) (by decide)).trans h74.1, h74.2⟩
  exact g_tried IG hw hwu hc C5 hSt hp0n hp0 hS hNd hNB hI hkd hdd (fun n' sl' b' hP => KK n' sl' b' (hP.pre f5 (fun q _ => congrFun eD q) (eX 75 (by decide) (by decide))))
theorem ma_ou_1 {lg : Bool} (hm0 : ¬ m = 0) (h1 : ¬ (kd = 1 ∧ lg = true)) (h4 : ¬ kd = 4) : ma_ou tb bd S (kd, v, m, lg) = ma_tx tb bd 1 (ma_in tb m v) S.tm S := by
  unfold ma_ou
  dsimp only
  rw [if_neg h1, if_neg hm0, if_neg h4]
theorem g_one (IG : gIG f0 N BN tb bd K) (hw : w + (K + 1) = 103) (hwu : w < u) (hc : c ≤ 5000) (hC : gCx n sl b w u pl c N BN tb bd) (hSt : mg_S b p0 S) (hp0n : p0 + 5 < n) (hp0 : ∀ i, w ≤ i → i < u → ¬ p0 = pl i) (hS : mv_ok S) (hNd : gNd tb N S (K + 1)) (hNB : mo_NB tb bd S.at) (hm0 : ¬ m = 0) (ha : mz_a tb N m) (h8 : ¬ (tb m).1 = 8) (hdd : 4 * K + 123 ≤ d) (KK : ∀ n' sl' b', gPo n b w u pl N BN tb bd (ma_tr tb bd (ma_go tb bd K) S (ma_ac bd (mv_E tb S S.tm S.tm 100) m 0 (tb m)) c) n' sl' b' → Q (.inl (some (.int (Int32.ofNat (ma_tr tb bd (ma_go tb bd K) S (ma_ac bd (mv_E tb S S.tm S.tm 100) m 0 (tb m)) c).1)))) (n', sl', hd b' f0)) : mi_W d 201 0 (mi_en 6 [.ref 505, .ref p0, .ref (pl w), .int (Int32.ofNat m)]) [] (n, sl, hd b f0) Q := by
  obtain ⟨hT, h57, hBy, h73, h74⟩ := id hC
  have hn := hBy.2.2.2.2.2.2.2
  obtain ⟨dd, rfl⟩ : ∃ dd, d = dd + 103 := ⟨d - 103, by omega⟩
  obtain ⟨-, hpl4, hpln, hplo⟩ := hBy.1 w hwu
  have hp0w : ¬ p0 = pl w := hp0 w (Nat.le_refl _) hwu
  have hSt0 : mg_S (b.sS (.ref (pl w))) p0 S := hSt
  have hmN := ha.1
  have hN8 := hT.1.1
  have ho := mz_so3 ⟨(tb m).1, mz_so33 ha.2.1 (by decide)⟩ ha.2.1
  dsimp only at ho
  have hixm := ix_of (w := m) (m := 800) (by omega) (by omega)
  have KS : ∀ (s : ma_P), ma_ac bd (mv_E tb S S.tm S.tm 100) m 0 (tb m) = [s] → ∀ n' sl' b', gPo n b w u pl N BN tb bd (ma_st tb bd (ma_go tb bd K) S s c) n' sl' b' → Q (.inl (some (.int (Int32.ofNat (ma_st tb bd (ma_go tb bd K) S s c).1)))) (n', sl', hd b' f0) := by
    intro s hs n' sl' b' hP
    rw [hs] at KK
    have e := ma_tr_o (tb := tb) (bd := bd) (go := ma_go tb bd K) (S := S) (s := s) (c := c)
    have := KK n' sl' b' (hP.eq e.1 e.2.1 e.2.2)
    rw [e.1] at this
    exact this
  have pre : ∀ (b1 : mg_A), gCf (pl w) (b.sS (.ref (pl w))) b1 → mg_S b1 (pl w) S → ∀ b4, b4 = (((b1.sY 44 S.tm).sY 45 S.tm).sX 46 0).sX 59 0 → gAf w u pl b b4 ∧ gCx n sl b4 w u pl c N BN tb bd ∧ mg_S b4 p0 S ∧ gRk n b4 (pl w) N tb S S.tm S.tm ∧ b4 = gvL b4 false ∧ b4.D = b.D ∧ b4.I 505 75 = b.I 505 75 ∧ b4.I 505 59 = 0 := by
    intro b1 f1 s1 b4 h4
    have a1 : gAf w u pl b b1 := (gAf.sS (b := b) (v := .ref (pl w))).trans (gAf.cf f1 hwu) (Nat.le_refl _) (fun _ _ => rfl)
    have aY : gAf w u pl b1 ((b1.sY 44 S.tm).sY 45 S.tm) := by
      refine ⟨fun _ _ _ _ _ => rfl, fun q h1 _ _ _ _ _ => ?_, fun _ _ => rfl, fun j h1 h2 => ?_, fun _ _ _ => ⟨rfl, rfl⟩, fun _ _ => ⟨rfl, rfl, rfl⟩⟩
      · exact (va_ne (f := (b1.sY 44 S.tm).J) h1).trans (va_ne (f := b1.J) h1)
      · show va_up (va_up (b1.J 505) 44 S.tm) 45 S.tm j = _
        rw [va_ne h2, va_ne h1]
    have a4 : gAf w u pl b b4 := by
      rw [h4]
      exact ((a1.trans aY (Nat.le_refl _) (fun _ _ => rfl)).trans (gAf.sX (k := 46) (by omega)) (Nat.le_refl _) (fun _ _ => rfl)).trans (gAf.sX (k := 59) (by omega)) (Nat.le_refl _) (fun _ _ => rfl)
    have eX : ∀ j, ¬ j = 46 → ¬ j = 59 → b4.I 505 j = b.I 505 j := fun j h1 h2 => by
      rw [h4]
      show va_up (va_up (b1.I 505) 46 0) 59 0 j = _
      rw [va_ne h2, va_ne h1, f1.1]
      rfl
    have eB : b4.B = b.B := by
      rw [h4]
      exact f1.2.2.2.1
    have eD : b4.D = b.D := by
      rw [h4]
      exact f1.2.2.2.2.1
    have s1' : mg_S b1 p0 S := f1.st hp0w hSt0
    have T4 := hT.af a4
    refine ⟨a4, ⟨T4, (eX 57 (by decide) (by decide)).trans h57, hBy.to eB eD, ⟨(eX 73 (by decide) (by decide)).trans h73.1, h73.2⟩, (eX 74 (by decide) (by decide)).trans h74.1, h74.2⟩, ?_, ⟨?_, ?_, hpln, ?_, T4.1.1, T4.1.2.1, hS, T4.1.2.2⟩, ?_, eD, eX 75 (by decide) (by decide), ?_⟩
    · rw [h4]
      exact s1'
    · rw [h4]
      exact s1
    · rw [h4]
      exact f1.2.2.1
    · rw [h4]
      exact ⟨rfl, rfl⟩
    · refine (sX_self ?_).symm
      rw [h4]
      rfl
    · rw [h4]
      rfl
  rcases hcm : tb m with ⟨op, A, B, D, uu, x, y, z, M, F⟩
  have hrow := fun b4 (h : gTb b4 N BN tb bd) => h.1.2.1 m hmN
  have hxo := ha.2.2.2.1
  have had := ha.2.2.1
  rw [hcm] at ho hrow hxo had h8
  unfold gRow at hrow
  unfold mz_ad at had
  dsimp only at ho hrow hxo had h8
  rcases ho with rfl | rfl | rfl
  · have hxk : mz_ok tb N 100 1 x := mz_dn (hxo (by decide))
    rw [hcm] at KS
    refine b_201_0 _ _ _ (by first | (exact hd_9) | assumption) (by omega) (by rw [mL_len]; decide) (by first | (exact (congrFun (gw_S) _).trans (hd_8 (by assumption))) | assumption) (by omega) ?_
    refine hw_W (gw_S) ?_
    refine g_copy (b := b.sS (.ref (pl w))) hn hpln hp0n hplo hSt0 hp0w (fun b1 f1 s1 => ?_)
    have s1' : mg_S b1 p0 S := f1.st hp0w hSt0
    have hp0o := s1'.1
    have e1 : b1.L 0 p0 0 = S.tm := gS_tm s1'
    obtain ⟨a4, C4, S4, R4, G4, D4, e75, e59⟩ := pre b1 f1 s1 _ rfl
    have hr4 := hrow _ C4.1
    obtain ⟨w0, w1, w2, w3, w4, w5, -⟩ := hr4
    refine b_201_10 _ _ _ _ _ _ (by first | (exact hd_8 (by assumption)) | assumption) (by omega) (by exact rfl) (by first | (exact hd_9) | assumption) (by omega) (by rw [mL_len]; decide) (by first | (exact (congrFun (gw_Y (by decide)) _).trans (hd_8 (by assumption))) | assumption) (by omega) (by exact rfl) (by first | (exact (congrFun (gw_Y (by decide)) _).trans (hd_9)) | assumption) (by omega) (by rw [mL_len]; decide) (by first | (exact (congrFun (hw_2 (gw_Y (by decide)) (gw_Y (by decide))) _).trans (hd_9)) | assumption) (by omega) (by rw [mL_len]; decide) (by first | assumption | (exact mL_get (by decide)) | (rw [mL_len]; decide) | (simp only [mL_set]; exact mL_get (by decide)) | (simp only [mL_set, mL_len]; decide) | (exact va_eq) | (exact (va_ne (by omega)).trans (by assumption)) | (exact (va_ne (by omega)).trans va_eq) | (exact (va_ne (by omega)).trans ((va_ne (by omega)).trans (by assumption))) | (exact (va_ne (by omega)).trans ((va_ne (by omega)).trans ((va_ne (by omega)).trans (by assumption)))) | rfl | (exact Or.inl rfl) | (exact Or.inr rfl) | omega | (exact Nat.le_of_ble_eq_true rfl) | decide | (exact ⟨by decide, rfl, by decide⟩)) (by first | (exact (congrFun (hw_2 (hw_2 (gw_Y (by decide)) (gw_Y (by decide))) (gw_X (by decide))) _).trans (hd_9)) | assumption) (by omega) (by rw [mL_len]; decide) (by first | (exact (congrFun (hw_2 (hw_2 (hw_2 (gw_Y (by decide)) (gw_Y (by decide))) (gw_X (by decide))) (gw_X (by decide))) _).trans (hd_9)) | assumption) (by omega) (by exact mL_get (by decide)) (by first | (exact (congrFun (hw_2 (hw_2 (hw_2 (gw_Y (by decide)) (gw_Y (by decide))) (gw_X (by decide))) (gw_X (by decide))) _).trans (hd_I (by omega) rfl)) | assumption) (Or.inl (by omega)) (by first | assumption | (exact ix_of (by omega) (by omega)) | (exact ⟨by decide, rfl, by decide⟩)) ?_ ?_
    · intro z10
      exact absurd w0 z10
    · intro z10
      refine hw_W (hw_2 (hw_2 (hw_2 (gw_Y (by decide)) (gw_Y (by decide))) (gw_X (by decide))) (gw_X (by decide))) ?_
      rw [e1]
      rw [show ((b1.sY 44 S.tm).L 0 p0 0) = S.tm from e1]
      have eB4 : ((((b1.sY 44 S.tm).sY 45 S.tm).sX 46 0).sX 59 0).B = b.B := f1.2.2.2.1
      have eX4 : ∀ j, ¬ j = 46 → ¬ j = 59 → ((((b1.sY 44 S.tm).sY 45 S.tm).sX 46 0).sX 59 0).I 505 j = b.I 505 j := fun j h1 h2 => by
        show va_up (va_up (b1.I 505) 46 0) 59 0 j = _
        rw [va_ne h2, va_ne h1, f1.1]
        rfl
      generalize hb4 : (((b1.sY 44 S.tm).sY 45 S.tm).sX 46 0).sX 59 0 = b4 at *
      have E := g_E (sl := sl) (f0 := f0) hn R4 100 (by omega)
      have a4l : ∀ l, gAf w u pl b (gvL b4 l) := fun l => a4.trans (gAf.sX (k := 46) (by omega)) (Nat.le_refl _) (fun _ _ => rfl)
      refine b_201_47 _ _ _ _ _ _ (by first | (exact hd_9) | assumption) (by omega) (by exact mL_get (by decide)) (by first | (exact hd_I (by omega) rfl) | assumption) (Or.inl (by omega)) (by first | assumption | (exact ix_of (by omega) (by omega)) | (exact ⟨by decide, rfl, by decide⟩)) (by first | (exact hd_9) | assumption) (by omega) ?_
      rw [w5 (by decide)]
      refine hw_W (congrArg (fun x => hd x f0) G4) ?_
      refine E.1 x _ false _ (by omega) hxk (fun r l cc => ?_)
      cases hv : (mv_E tb S S.tm S.tm 100).1 x with
      | none =>
        rw [hv] at cc
        have hl : l = true := cc
        subst hl
        have KS' := KS (1, 0, m, true) (ma_ac_7n hv)
        rw [ma_st_2, show ma_ou tb bd S (1, 0, m, true) = .error 6 from if_pos ⟨rfl, rfl⟩] at KS'
        refine b_201_57 _ _ _ (by first | (exact hd_9) | assumption) (by omega) (by exact mL_get (by decide)) ?_ ?_
        · intro z57
          exact absurd z57 gvL_46t
        · intro z57
          refine b_201_66 _ _ _ (by first | (exact hd_9) | assumption) (by omega) ?_
          rw [← mz_lk0 hm0]
          refine g_stepped (o := .error 6) (f := 6) (kd := 1) IG hw hwu hc (show gCx n sl (gvL b4 true) w u pl c N BN tb bd from C4) (fun Z hZ => by cases hZ) (fun _ _ => by decide) (by decide) (by omega) (fun n' sl' b' hP => ?_)
          refine b_201_76 _ _ _ ?_
          exact KS' n' sl' b' (hP.pre (a4l true) (fun q _ => congrFun D4 q) e75)
      | some v =>
        rw [hv] at cc
        have hl : l = false ∧ r = v := cc
        obtain ⟨rfl, rfl⟩ := hl
        refine b_201_57 _ _ _ (by first | (exact hd_9) | assumption) (by omega) (by exact mL_get (by decide)) ?_ ?_
        · intro z57
          refine b_201_77 _ _ _ _ _ _ _ _ _ _ _ _ (by first | (exact hd_9) | assumption) (by omega) (by exact mL_get (by decide)) (by first | (exact hd_I (by omega) rfl) | assumption) (Or.inl (by omega)) (by first | assumption | (exact ix_of (by omega) (by omega)) | (exact ⟨by decide, rfl, by decide⟩)) (by first | (exact hd_9) | assumption) (by omega) (by exact mL_get (by decide)) (by first | (exact hd_I (by omega) rfl) | assumption) (Or.inl (by omega)) (by first | assumption | (exact ix_of (by omega) (by omega)) | (exact ⟨by decide, rfl, by decide⟩)) (by first | (exact hd_9) | assumption) (by omega) (by exact mL_get (by decide)) (by first | (exact hd_I (by omega) rfl) | assumption) (Or.inl (by omega)) (by first | assumption | (exact ix_of (by omega) (by omega)) | (exact ⟨by decide, rfl, by decide⟩)) (by first | (exact hd_9) | assumption) (by omega) ?_
          rw [show (gvL b4 false).I 510 m = Int32.ofNat A from w1 (by decide), show (gvL b4 false).I 511 m = Int32.ofNat B from w2 (by decide), show (gvL b4 false).I 512 m = Int32.ofNat D from w3 (by decide)]
          refine g_input hn (show (gvL b4 false).I 505 59 = 0 from e59) (fun b5 f5 i1 i2 i3 i4 i5 => ?_)
          refine b_201_103 _ _ _ (by first | (exact hd_9) | assumption) (by omega) ?_
          rw [← mz_lk0 hm0]
          have hA : A < 8 := had.1 (by decide)
          have hB : B < 8 := had.2.1 (by decide)
          have hD : D < 4 := had.2.2 (by decide)
          refine g_inp (kd := 1) (lg := false) IG hw hwu hc hC ((a4l false).trans (f5.1 w u pl) (Nat.le_refl _) (fun _ _ => rfl)) (f5.2.1.trans eB4) (f5.2.2.1.trans D4) (fun j h1 h2 => (f5.2.2.2.2.2.2.1 j h2).trans ((va_ne (f := b4.I 505) h1).trans (eX4 j h1 h2))) ?_ hp0n hp0 hS hNd hNB ?_ (by decide) (ma_ou_1 hm0 (fun h => Bool.noConfusion h.2) (by decide)) (by omega) (fun n' sl' b' hP => ?_)
          · unfold mg_S
            rw [f5.2.2.1, f5.2.2.2.2.1, f5.2.2.2.2.2.1]
            exact S4
          · unfold ma_in
            rw [hcm]
            exact ⟨Or.inl rfl, i1, fun _ => ⟨i2, by show A ≤ 800; omega⟩, fun _ => ⟨i3, by show B ≤ 800; omega, i4, by show D ≤ 800; omega⟩, i5⟩
          · refine b_201_114 _ _ _ ?_
            exact KS (1, r, m, false) (ma_ac_7s hv) n' sl' b' hP
        · intro z57
          exact absurd rfl z57
  · exact absurd rfl h8
  · have hxk : mz_ok tb N 100 2 x := mz_dn (hxo (by decide))
    rw [hcm] at KS KK
    refine b_201_0 _ _ _ (by first | (exact hd_9) | assumption) (by omega) (by rw [mL_len]; decide) (by first | (exact (congrFun (gw_S) _).trans (hd_8 (by assumption))) | assumption) (by omega) ?_
    refine hw_W (gw_S) ?_
    refine g_copy (b := b.sS (.ref (pl w))) hn hpln hp0n hplo hSt0 hp0w (fun b1 f1 s1 => ?_)
    have s1' : mg_S b1 p0 S := f1.st hp0w hSt0
    have hp0o := s1'.1
    have e1 : b1.L 0 p0 0 = S.tm := gS_tm s1'
    obtain ⟨a4, C4, S4, R4, G4, D4, e75, e59⟩ := pre b1 f1 s1 _ rfl
    have hr4 := hrow _ C4.1
    obtain ⟨w0, w1, w2, w3, w4, w5, -⟩ := hr4
    refine b_201_10 _ _ _ _ _ _ (by first | (exact hd_8 (by assumption)) | assumption) (by omega) (by exact rfl) (by first | (exact hd_9) | assumption) (by omega) (by rw [mL_len]; decide) (by first | (exact (congrFun (gw_Y (by decide)) _).trans (hd_8 (by assumption))) | assumption) (by omega) (by exact rfl) (by first | (exact (congrFun (gw_Y (by decide)) _).trans (hd_9)) | assumption) (by omega) (by rw [mL_len]; decide) (by first | (exact (congrFun (hw_2 (gw_Y (by decide)) (gw_Y (by decide))) _).trans (hd_9)) | assumption) (by omega) (by rw [mL_len]; decide) (by first | assumption | (exact mL_get (by decide)) | (rw [mL_len]; decide) | (simp only [mL_set]; exact mL_get (by decide)) | (simp only [mL_set, mL_len]; decide) | (exact va_eq) | (exact (va_ne (by omega)).trans (by assumption)) | (exact (va_ne (by omega)).trans va_eq) | (exact (va_ne (by omega)).trans ((va_ne (by omega)).trans (by assumption))) | (exact (va_ne (by omega)).trans ((va_ne (by omega)).trans ((va_ne (by omega)).trans (by assumption)))) | rfl | (exact Or.inl rfl) | (exact Or.inr rfl) | omega | (exact Nat.le_of_ble_eq_true rfl) | decide | (exact ⟨by decide, rfl, by decide⟩)) (by first | (exact (congrFun (hw_2 (hw_2 (gw_Y (by decide)) (gw_Y (by decide))) (gw_X (by decide))) _).trans (hd_9)) | assumption) (by omega) (by rw [mL_len]; decide) (by first | (exact (congrFun (hw_2 (hw_2 (hw_2 (gw_Y (by decide)) (gw_Y (by decide))) (gw_X (by decide))) (gw_X (by decide))) _).trans (hd_9)) | assumption) (by omega) (by exact mL_get (by decide)) (by first | (exact (congrFun (hw_2 (hw_2 (hw_2 (gw_Y (by decide)) (gw_Y (by decide))) (gw_X (by decide))) (gw_X (by decide))) _).trans (hd_I (by omega) rfl)) | assumption) (Or.inl (by omega)) (by first | assumption | (exact ix_of (by omega) (by omega)) | (exact ⟨by decide, rfl, by decide⟩)) ?_ ?_
    · intro z10
      refine hw_W (hw_2 (hw_2 (hw_2 (gw_Y (by decide)) (gw_Y (by decide))) (gw_X (by decide))) (gw_X (by decide))) ?_
      rw [e1]
      rw [show ((b1.sY 44 S.tm).L 0 p0 0) = S.tm from e1]
      have eB4 : ((((b1.sY 44 S.tm).sY 45 S.tm).sX 46 0).sX 59 0).B = b.B := f1.2.2.2.1
      have eX4 : ∀ j, ¬ j = 46 → ¬ j = 59 → ((((b1.sY 44 S.tm).sY 45 S.tm).sX 46 0).sX 59 0).I 505 j = b.I 505 j := fun j h1 h2 => by
        show va_up (va_up (b1.I 505) 46 0) 59 0 j = _
        rw [va_ne h2, va_ne h1, f1.1]
        rfl
      generalize hb4 : (((b1.sY 44 S.tm).sY 45 S.tm).sX 46 0).sX 59 0 = b4 at *
      have E := g_E (sl := sl) (f0 := f0) hn R4 100 (by omega)
      have a4l : ∀ l, gAf w u pl b (gvL b4 l) := fun l => a4.trans (gAf.sX (k := 46) (by omega)) (Nat.le_refl _) (fun _ _ => rfl)
      refine b_201_115 _ _ _ _ _ _ (by first | (exact hd_9) | assumption) (by omega) (by exact mL_get (by decide)) (by first | (exact hd_I (by omega) rfl) | assumption) (Or.inl (by omega)) (by first | assumption | (exact ix_of (by omega) (by omega)) | (exact ⟨by decide, rfl, by decide⟩)) (by first | (exact hd_9) | assumption) (by omega) ?_
      rw [w5 (by decide)]
      refine hw_W (congrArg (fun x => hd x f0) G4) ?_
      refine E.2 x _ false _ (by omega) hxk (fun r l hr01 cc => ?_)
      have h141 : ∀ lg, ma_ac bd (mv_E tb S S.tm S.tm 100) m 0 (9, A, B, D, uu, x, y, z, M, F) = [(3, 0, m, lg)] → ∀ l5 o6, mi_W (dd + 103) 201 141 [some (.ref 505), some (.ref p0), some (.ref (pl w)), some (.int (Int32.ofNat m)), some (.int l5), o6] [] (n, sl, hd (gvL b4 l) f0) Q := by
        intro lg hac l5 o6
        refine b_201_141 _ _ _ (by first | (exact hd_9) | assumption) (by omega) ?_
        refine g_input hn (show (gvL b4 l).I 505 59 = 0 from e59) (fun b5 f5 i1 i2 i3 i4 i5 => ?_)
        refine b_201_151 _ _ _ (by first | (exact hd_9) | assumption) (by omega) ?_
        rw [← mz_lk0 hm0]
        refine g_inp (kd := 3) (lg := lg) IG hw hwu hc hC ((a4l l).trans (f5.1 w u pl) (Nat.le_refl _) (fun _ _ => rfl)) (f5.2.1.trans eB4) (f5.2.2.1.trans D4) (fun j h1 h2 => (f5.2.2.2.2.2.2.1 j h2).trans ((va_ne (f := b4.I 505) h1).trans (eX4 j h1 h2))) ?_ hp0n hp0 hS hNd hNB ?_ (by decide) (ma_ou_1 hm0 (fun h => absurd h.1 (by decide)) (by decide)) (by omega) (fun n' sl' b' hP => ?_)
        · unfold mg_S
          rw [f5.2.2.1, f5.2.2.2.2.1, f5.2.2.2.2.2.1]
          exact S4
        · unfold ma_in
          rw [hcm]
          exact ⟨Or.inr (Or.inr rfl), i1, fun h => absurd rfl h, fun h => absurd (show (9 : Nat) = 7 from h) (by decide), i5⟩
        · refine b_201_161 _ _ _ ?_
          exact KS (3, 0, m, lg) hac n' sl' b' hP
      cases hv : (mv_E tb S S.tm S.tm 100).2 x with
      | none =>
        rw [hv] at cc
        have hl : l = true := cc
        subst hl
        refine b_201_125 _ _ _ ?_ ?_
        · intro z125
          exact h141 true (ma_ac_9n hv) _ _
        · intro z125
          refine b_201_132 _ _ _ (by first | (exact hd_9) | assumption) (by omega) (by exact mL_get (by decide)) ?_ ?_
          · intro z132
            exact h141 true (ma_ac_9n hv) _ _
          · intro z132
            exact absurd (Classical.not_not.mp z132) gvL_46t
      | some bb =>
        rw [hv] at cc
        have hl : l = false ∧ r = cvt bb := cc
        obtain ⟨rfl, rfl⟩ := hl
        cases bb with
        | true =>
          refine b_201_125 _ _ _ ?_ ?_
          · intro z125
            exact h141 false (ma_ac_9t hv) _ _
          · intro z125
            exact absurd (Classical.not_not.mp z125) (by decide)
        | false =>
          rw [ma_ac_9f hv] at KK
          refine b_201_125 _ _ _ ?_ ?_
          · intro z125
            exact absurd rfl z125
          · intro z125
            refine b_201_132 _ _ _ (by first | (exact hd_9) | assumption) (by omega) (by exact mL_get (by decide)) ?_ ?_
            · intro z132
              exact absurd rfl z132
            · intro z132
              refine b_201_139 _ _ _ ?_
              exact KK n sl _ ⟨u, pl, C4, a4l false, Nat.le_refl _, ⟨fun _ _ => rfl, fun i h1 h2 => absurd h2 (by omega)⟩, Nat.le_refl _, fun q _ => congrFun D4 q, ⟨fun _ => e75, fun h => absurd h (show ¬ (0 : Nat) = 1 by decide)⟩, (show (0 : Nat) ≤ 2 by decide)⟩
    · intro z10
      exact absurd (w0.symm.trans (Classical.not_not.mp z10)) (by decide)
end
