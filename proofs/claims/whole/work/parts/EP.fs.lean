/-! the second object: an input is tried -/
section
variable {d n sl N BN w u i k q kd m c K p0 n' sl' : Nat} {b b0 b1 b2 b' : mg_A} {f0 : Nat → mi_C} {pl : Nat → Nat} {tb : Nat → ms_N} {bd : Nat → Int64 × Int64} {S : mv_S} {r : ma_R} {Q : (Option Value ⊕ Nat) → mi_H → Prop} {v T : Int64} {I : mv_I} {what x y z : Int32}
theorem gPo.pre (f : gAf w u pl b b1) (hD : ∀ q, q < n → b1.D q = b.D q) (h75 : b1.I 505 75 = b.I 505 75) (h : gPo n b1 w u pl N BN tb bd r n' sl' b') : gPo n b w u pl N BN tb bd r n' sl' b' := by
  obtain ⟨u', pl', hC, hf, hu, hp, hn, hDD, hF, hr⟩ := h
  refine ⟨u', pl', hC, f.trans hf hu hp.1, hu, hp, hn, fun q hq => (hDD q hq).trans (hD q hq), ⟨fun h => (hF.1 h).trans h75, fun h => ?_⟩, hr⟩
  obtain ⟨q1, q2, q3, q4⟩ := hF.2 h
  exact ⟨q1, q2, fun i hi => ⟨(q3 i hi).1.trans (f.2.2.2.2.2 i hi).1, (q3 i hi).2.1.trans (f.2.2.2.2.2 i hi).2.1, (q3 i hi).2.2.trans (f.2.2.2.2.2 i hi).2.2⟩, q4⟩
/-- what putting an input in changes -/
def gIp (b b' : mg_A) : Prop := (∀ w u pl, gAf w u pl b b') ∧ b'.B = b.B ∧ b'.D = b.D ∧ b'.s = b.s ∧ b'.P = b.P ∧ b'.L = b.L ∧ (∀ j, ¬ j = 59 → b'.I 505 j = b.I 505 j) ∧ b'.J 505 = b.J 505
theorem g_input (hn : 575 ≤ n) (h59 : b.I 505 59 = 0) (KK : ∀ b', gIp b b' → b'.I 551 0 = what → b'.I 552 0 = x → b'.I 553 0 = y → b'.I 554 0 = z → b'.J 555 0 = v → Q (.inl (some (.int 1))) (n, sl, hd b' f0)) : mi_W d 188 0 (mi_en 7 [.ref 505, .int what, .int x, .int y, .int z, .long v]) [] (n, sl, hd b f0) Q := by
  have hix : mi_ix (b.I 505 59) 16 0 := by
    rw [h59]
    exact ix_of (w := 0) (m := 16) (by omega) (by omega)
  have fr : ∀ w u pl, gAf w u pl b ((((((b.sI 551 (upd (b.I 551) 0 what)).sI 552 (upd (b.I 552) 0 x)).sI 553 (upd (b.I 553) 0 y)).sI 554 (upd (b.I 554) 0 z)).sJ 555 (vp_updL (b.J 555) 0 v)).sX 59 (b.I 505 59 + 1)) := fun w u pl => (((((gAf.sI (q := 551) (by omega)).trans (gAf.sI (q := 552) (by omega)) (Nat.le_refl _) (fun _ _ => rfl)).trans (gAf.sI (q := 553) (by omega)) (Nat.le_refl _) (fun _ _ => rfl)).trans (gAf.sI (q := 554) (by omega)) (Nat.le_refl _) (fun _ _ => rfl)).trans (gAf.sJ (q := 555) (Or.inl rfl)) (Nat.le_refl _) (fun _ _ => rfl)).trans (gAf.sX (k := 59) (by omega)) (Nat.le_refl _) (fun _ _ => rfl)
  have h1 : b.I 505 59 + 1 = 1 := by
    rw [h59]
    rfl
  have KK' := KK ((((((b.sI 551 (upd (b.I 551) 0 what)).sI 552 (upd (b.I 552) 0 x)).sI 553 (upd (b.I 553) 0 y)).sI 554 (upd (b.I 554) 0 z)).sJ 555 (vp_updL (b.J 555) 0 v)).sX 59 (b.I 505 59 + 1)) ⟨fr, rfl, rfl, rfl, rfl, rfl, fun j hj => va_ne (f := b.I 505) hj, rfl⟩ (show upd (b.I 551) 0 what 0 = what from upd_at) (show upd (b.I 552) 0 x 0 = x from upd_at) (show upd (b.I 553) 0 y 0 = y from upd_at) (show upd (b.I 554) 0 z 0 = z from upd_at) (show vp_updL (b.J 555) 0 v 0 = v from upL_at)
  refine b_188_0 _ _ _ _ _ _ _ _ _ _ _ _ _ _ _ _ _ _ (by first | (exact hd_9) | assumption) (by omega) (by exact mL_get (by decide)) (by first | (exact hd_9) | assumption) (by omega) (by exact mL_get (by decide)) (by first | (exact hd_I (by omega) rfl) | assumption) (by omega) (by first | assumption | (exact ix_of (by omega) (by omega)) | (exact ⟨by decide, rfl, by decide⟩)) (by first | (exact (congrFun (gw_I (by omega) rfl) _).trans (hd_9)) | assumption) (by omega) (by exact mL_get (by decide)) (by first | (exact (congrFun (gw_I (by omega) rfl) _).trans (hd_9)) | assumption) (by omega) (by exact mL_get (by decide)) (by first | (exact (congrFun (gw_I (by omega) rfl) _).trans (hd_I (by omega) rfl)) | assumption) (by omega) (by first | assumption | (exact ix_of (by omega) (by omega)) | (exact ⟨by decide, rfl, by decide⟩)) (by first | (exact (congrFun (hw_2 (gw_I (by omega) rfl) (gw_I (by omega) rfl)) _).trans (hd_9)) | assumption) (by omega) (by exact mL_get (by decide)) (by first | (exact (congrFun (hw_2 (gw_I (by omega) rfl) (gw_I (by omega) rfl)) _).trans (hd_9)) | assumption) (by omega) (by exact mL_get (by decide)) (by first | (exact (congrFun (hw_2 (gw_I (by omega) rfl) (gw_I (by omega) rfl)) _).trans (hd_I (by omega) rfl)) | assumption) (by omega) (by first | assumption | (exact ix_of (by omega) (by omega)) | (exact ⟨by decide, rfl, by decide⟩)) (by first | (exact (congrFun (hw_2 (hw_2 (gw_I (by omega) rfl) (gw_I (by omega) rfl)) (gw_I (by omega) rfl)) _).trans (hd_9)) | assumption) (by omega) (by exact mL_get (by decide)) (by first | (exact (congrFun (hw_2 (hw_2 (gw_I (by omega) rfl) (gw_I (by omega) rfl)) (gw_I (by omega) rfl)) _).trans (hd_9)) | assumption) (by omega) (by exact mL_get (by decide)) (by first | (exact (congrFun (hw_2 (hw_2 (gw_I (by omega) rfl) (gw_I (by omega) rfl)) (gw_I (by omega) rfl)) _).trans (hd_I (by omega) rfl)) | assumption) (by omega) (by first | assumption | (exact ix_of (by omega) (by omega)) | (exact ⟨by decide, rfl, by decide⟩)) (by first | (exact (congrFun (hw_2 (hw_2 (hw_2 (gw_I (by omega) rfl) (gw_I (by omega) rfl)) (gw_I (by omega) rfl)) (gw_I (by omega) rfl)) _).trans (hd_9)) | assumption) (by omega) (by exact mL_get (by decide)) (by first | (exact (congrFun (hw_2 (hw_2 (hw_2 (gw_I (by omega) rfl) (gw_I (by omega) rfl)) (gw_I (by omega) rfl)) (gw_I (by omega) rfl)) _).trans (hd_9)) | assumption) (by omega) (by exact mL_get (by decide)) (by first | (exact (congrFun (hw_2 (hw_2 (hw_2 (gw_I (by omega) rfl) (gw_I (by omega) rfl)) (gw_I (by omega) rfl)) (gw_I (by omega) rfl)) _).trans (hd_J (by omega) rfl)) | (exact (congrFun (hw_2 (hw_2 (hw_2 (gw_I (by omega) rfl) (gw_I (by omega) rfl)) (gw_I (by omega) rfl)) (gw_I (by omega) rfl)) _).trans (hd_L1 (by assumption))) | (exact (congrFun (hw_2 (hw_2 (hw_2 (gw_I (by omega) rfl) (gw_I (by omega) rfl)) (gw_I (by omega) rfl)) (gw_I (by omega) rfl)) _).trans (hd_L2 (by assumption))) | (exact (congrFun (hw_2 (hw_2 (hw_2 (gw_I (by omega) rfl) (gw_I (by omega) rfl)) (gw_I (by omega) rfl)) (gw_I (by omega) rfl)) _).trans (hd_L3 (by assumption))) | assumption) (by omega) (by first | assumption | (exact ix_of (by omega) (by omega)) | (exact ⟨by decide, rfl, by decide⟩)) (by first | (exact (congrFun (hw_2 (hw_2 (hw_2 (hw_2 (gw_I (by omega) rfl) (gw_I (by omega) rfl)) (gw_I (by omega) rfl)) (gw_I (by omega) rfl)) ((by first | exact gw_J (by omega) rfl | exact gw_L1 (by assumption) | exact gw_L2 (by assumption) | exact gw_L3 (by assumption)))) _).trans (hd_9)) | assumption) (by omega) (by exact mL_get (by decide)) (by first | (exact (congrFun (hw_2 (hw_2 (hw_2 (hw_2 (gw_I (by omega) rfl) (gw_I (by omega) rfl)) (gw_I (by omega) rfl)) (gw_I (by omega) rfl)) ((by first | exact gw_J (by omega) rfl | exact gw_L1 (by assumption) | exact gw_L2 (by assumption) | exact gw_L3 (by assumption)))) _).trans (hd_9)) | assumption) (by omega) (by rw [mL_len]; decide) ?_
  refine hw_Q (hw_2 (hw_2 (hw_2 (hw_2 (hw_2 (gw_I (by omega) rfl) (gw_I (by omega) rfl)) (gw_I (by omega) rfl)) (gw_I (by omega) rfl)) ((by first | exact gw_J (by omega) rfl | exact gw_L1 (by assumption) | exact gw_L2 (by assumption) | exact gw_L3 (by assumption)))) (gw_X (by decide))) ?_
  have e : ∀ t : Int32, t = 1 → ∀ b9, b9 = ((((((b.sI 551 (upd (b.I 551) 0 what)).sI 552 (upd (b.I 552) 0 x)).sI 553 (upd (b.I 553) 0 y)).sI 554 (upd (b.I 554) 0 z)).sJ 555 (vp_updL (b.J 555) 0 v)).sX 59 (b.I 505 59 + 1)) → Q (.inl (some (.int t))) (n, sl, hd b9 f0) := fun t ht b9 h9 => by rw [ht, h9]; exact KK'
  exact e _ h1 _ rfl
theorem gS_tm (h : mg_S b p0 S) : b.L 0 p0 0 = S.tm := h.2.2.1
theorem g_tried (IG : gIG f0 N BN tb bd K) (hw : w + (K + 1) = 103) (hwu : w < u) (hc : c ≤ 5000) (hC : gCx n sl b w u pl c N BN tb bd) (hSt : mg_S b p0 S) (hp0n : p0 + 5 < n) (hp0 : ∀ i, w ≤ i → i < u → ¬ p0 = pl i) (hS : mv_ok S) (hNd : gNd tb N S (K + 1)) (hNB : mo_NB tb bd S.at) (hI : gIn b 0 I) (hkd : kd ≤ 4) (hdd : 4 * K + 122 ≤ d) (KK : ∀ n' sl' b', gPo n b w u pl N BN tb bd (ma_s2 (ma_go tb bd K) (ma_tx tb bd 1 I S.tm S) (kd, v, m) c) n' sl' b' → Q (.inl (some (.int (Int32.ofNat (ma_s2 (ma_go tb bd K) (ma_tx tb bd 1 I S.tm S) (kd, v, m) c).1)))) (n', sl', hd b' f0)) : mi_W d 200 0 (mi_en 8 [.ref 505, .ref p0, .ref (pl w), .int (Int32.ofNat kd), .long v, .int (mz_lk m)]) [] (n, sl, hd b f0) Q := by
  obtain ⟨hT, h57, hBy, h73, h74⟩ := hC
  have hn := hBy.2.2.2.2.2.2.2
  obtain ⟨dd, rfl⟩ : ∃ dd, d = dd + 106 := ⟨d - 106, by omega⟩
  obtain ⟨-, hpl4, hpln, hplo⟩ := hBy.1 w hwu
  have hp0w : ¬ p0 = pl w := hp0 w (Nat.le_refl _) hwu
  obtain ⟨k0, hk100, hmk, -, hkK⟩ := hNd
  have hbd : ∀ j, mv_in (bd j).1 ∧ mv_in (bd j).2 := fun j => ms_bo_in (hT.2.2 j)
  have hSt0 : mg_S (b.sS (.ref (pl w))) p0 S := hSt
  refine b_200_0 _ _ _ (by first | (exact hd_9) | assumption) (by omega) (by rw [mL_len]; decide) (by first | (exact (congrFun (gw_S) _).trans (hd_8 (by assumption))) | assumption) (by omega) ?_
  refine hw_W (gw_S) ?_
  refine g_copy (b := b.sS (.ref (pl w))) hn hpln hp0n hplo hSt0 hp0w (fun b1 f1 s1 => ?_)
  have a1 : gAf w u pl b b1 := (gAf.sS (b := b) (v := .ref (pl w))).trans (gAf.cf f1 hwu) (Nat.le_refl _) (fun _ _ => rfl)
  have s1' : mg_S b1 p0 S := f1.st hp0w hSt0
  have hp0o := s1'.1
  have e1 : b1.L 0 p0 0 = S.tm := gS_tm s1'
  refine b_200_10 _ _ _ (by first | (exact hd_8 (by assumption)) | assumption) (by omega) (by exact rfl) (by first | (exact hd_8 (by assumption)) | assumption) (by omega) (by exact rfl) (by first | (exact hd_9) | assumption) (by omega) ?_
  rw [e1]
  have i1 : gIn b1 0 I := by
    unfold gIn
    rw [f1.1, f1.2.1]
    exact hI
  refine g_run (e := dd) (many := 1) (ins := fun _ => I) (wal := false) (w := fun _ => 0) hn s1 f1.2.2.1 hpln ⟨(hT.af a1).1.1, (hT.af a1).1.2.1, hT.1.2.2⟩ (by rw [f1.1]; exact h57) (fun h => Bool.noConfusion h) hS hmk hk100 (hT.af a1).2.1 hbd (by decide) (fun j hj => by rw [show j = 0 by omega]; exact i1) (fun b2 Z2 k2 hz f2 k2' J2 l2 => ?_) (fun b2 x hx h1 h7 f2 => ?_)
  · have a2 : gAf w u pl b b2 := a1.trans (gAf.tf f2 hwu) (Nat.le_refl _) (fun _ _ => rfl)
    have eB : b2.B = b.B := f2.1.2.1.trans f1.2.2.2.1
    have eD : b2.D = b.D := f2.1.2.2.trans f1.2.2.2.2.1
    have eX : ∀ j, ¬ j = 46 → ¬ j = 47 → ¬ j = 48 → ¬ j = 58 → b2.I 505 j = b.I 505 j := fun j h1 h2 h3 h4 => (f2.2.2.2.1 j h1 h2 h3 h4).trans (by rw [f1.1]; rfl)
    have C2 : gCx n sl b2 w u pl c N BN tb bd := ⟨hT.af a2, (eX 57 (by decide) (by decide) (by decide) (by decide)).trans h57, hBy.to eB eD, ⟨(eX 73 (by decide) (by decide) (by decide) (by decide)).trans h73.1, h73.2⟩, (eX 74 (by decide) (by decide) (by decide) (by decide)).trans h74.1, h74.2⟩
    have e75 : b2.I 505 75 = b.I 505 75 := eX 75 (by decide) (by decide) (by decide) (by decide)
    refine b_200_23 _ _ _ (by first | (exact hd_9) | assumption) (by omega) ?_
    first | (refine g_stepped (o := ma_tx tb bd 1 I S.tm S) (f := 0) IG hw hwu hc C2 (fun Z hZ => ?_) (fun x hx => ?_) hkd (by omega) (fun n' sl' b' hP => ?_); have hq : Z = Z2 := Except.ok.inj (hZ.symm.trans hz); subst hq; obtain ⟨k', J', k1, -, nb, -, -, rd⟩ := ma_tx_ok hT.1.2.2 hbd hS hmk hk100 hNB (by decide) hZ; exact ⟨rfl, k2'.2.2.2.1, k2'.2.2.2.2.1.1.1, k2'.2.2.2.2.1.1.2.1, J'.1, ⟨k', J'.2.2.2.1, J'.2.2.1, fun h => (by rw [rd] at h; cases h), by have := k1 rfl; omega⟩, nb⟩; exact absurd (hx.symm.trans hz) (fun h => by cases h); refine b_200_37 _ _ _ ?_; exact KK n' sl' b' (hP.pre a2 (fun q _ => congrFun eD q) e75)) | skip
    all_goals refine g_stepped (o := ma_tx tb bd 1 I S.tm S) IG hw hwu hc C2 (fun Z hZ => ?_) (fun _ _ => of_17 h1 h7) hkd (by omega) (fun n' sl' b' hP => ?_)
    all_goals first | (exact absurd (hZ.symm.trans hx) (fun h => by cases h)) | (refine b_200_37 _ _ _ ?_; exact KK n' sl' b' (hP.pre a2 (fun q _ => congrFun eD q) e75))
  · have a2 : gAf w u pl b b2 := a1.trans (gAf.tf f2 hwu) (Nat.le_refl _) (fun _ _ => rfl)
    have eB : b2.B = b.B := f2.1.2.1.trans f1.2.2.2.1
    have eD : b2.D = b.D := f2.1.2.2.trans f1.2.2.2.2.1
    have eX : ∀ j, ¬ j = 46 → ¬ j = 47 → ¬ j = 48 → ¬ j = 58 → b2.I 505 j = b.I 505 j := fun j h1 h2 h3 h4 => (f2.2.2.2.1 j h1 h2 h3 h4).trans (by rw [f1.1]; rfl)
    have C2 : gCx n sl b2 w u pl c N BN tb bd := ⟨hT.af a2, (eX 57 (by decide) (by decide) (by decide) (by decide)).trans h57, hBy.to eB eD, ⟨(eX 73 (by decide) (by decide) (by decide) (by decide)).trans h73.1, h73.2⟩, (eX 74 (by decide) (by decide) (by decide) (by decide)).trans h74.1, h74.2⟩
    have e75 : b2.I 505 75 = b.I 505 75 := eX 75 (by decide) (by decide) (by decide) (by decide)
    refine b_200_23 _ _ _ (by first | (exact hd_9) | assumption) (by omega) ?_
    first | (refine g_stepped (o := ma_tx tb bd 1 I S.tm S) (f := 0) IG hw hwu hc C2 (fun Z hZ => ?_) (fun x hx => ?_) hkd (by omega) (fun n' sl' b' hP => ?_); have hq : Z = Z2 := Except.ok.inj (hZ.symm.trans hz); subst hq; obtain ⟨k', J', k1, -, nb, -, -, rd⟩ := ma_tx_ok hT.1.2.2 hbd hS hmk hk100 hNB (by decide) hZ; exact ⟨rfl, k2'.2.2.2.1, k2'.2.2.2.2.1.1.1, k2'.2.2.2.2.1.1.2.1, J'.1, ⟨k', J'.2.2.2.1, J'.2.2.1, fun h => (by rw [rd] at h; cases h), by have := k1 rfl; omega⟩, nb⟩; exact absurd (hx.symm.trans hz) (fun h => by cases h); refine b_200_37 _ _ _ ?_; exact KK n' sl' b' (hP.pre a2 (fun q _ => congrFun eD q) e75)) | skip
    all_goals refine g_stepped (o := ma_tx tb bd 1 I S.tm S) IG hw hwu hc C2 (fun Z hZ => ?_) (fun _ _ => of_17 h1 h7) hkd (by omega) (fun n' sl' b' hP => ?_)
    all_goals first | (exact absurd (hZ.symm.trans hx) (fun h => by cases h)) | (refine b_200_37 _ _ _ ?_; exact KK n' sl' b' (hP.pre a2 (fun q _ => congrFun eD q) e75))
end
