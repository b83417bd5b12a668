/-! the second object: goOn -/
section
variable {d n sl N BN w u i k q kd m c K p0 n' sl' : Nat} {b b0 b1 b2 b' : mg_A} {f0 : Nat → mi_C} {pl pl1 : Nat → Nat} {tb : Nat → ms_N} {bd : Nat → Int64 × Int64} {S : mv_S} {Q : (Option Value ⊕ Nat) → mi_H → Prop} {o3 o4 o5 o6 : Option Value}
theorem g_go28 (IG : gIG f0 N BN tb bd K) (hw : w + (K + 1) = 103) (hwu : w < u) (hc : c ≤ 5000) (hC : gCx n sl b w u pl c N BN tb bd) (hSt : mg_S b p0 S) (hp0n : p0 + 5 < n) (hp0 : ∀ i, w ≤ i → i < u → ¬ p0 = pl i) (hS : mv_ok S) (hNd : gNd tb N S (K + 1)) (hNB : mo_NB tb bd S.at) (hdd : 4 * K + 124 ≤ d) (KK : ∀ n' sl' b', gPo n b w u pl N BN tb bd (ma_go tb bd (K + 1) S c) n' sl' b' → Q (.inl (some (.int (Int32.ofNat (ma_go tb bd (K + 1) S c).1)))) (n', sl', hd b' f0)) : mi_W d 197 28 [some (.ref 505), some (.ref p0), o3, o4, o5, o6] [] (n, sl, hd b f0) Q := by
  obtain ⟨hT, h57, hBy, h73, h74⟩ := id hC
  have hn := hBy.2.2.2.2.2.2.2
  obtain ⟨dd, rfl⟩ : ∃ dd, d = dd + 1 := ⟨d - 1, by omega⟩
  obtain ⟨hBw, hpl4, hpln, hplo⟩ := hBy.1 w hwu
  have hp0w : ¬ p0 = pl w := hp0 w (Nat.le_refl _) hwu
  obtain ⟨k, hk100, hmk, hkr, hkK⟩ := id hNd
  have hok := mz_ok_le hk100 hmk
  have hat : S.at < N := mz_u1 hok
  have hN8 := hT.1.1
  have hixw : mi_ix (b.I 505 74) 2000 w := by
    rw [h74.1]
    exact ix_of (by omega) (by omega)
  have hSt0 : mg_S (b.sS (.ref (pl w))) p0 S := hSt
  have hbd : ∀ j, mv_in (bd j).1 ∧ mv_in (bd j).2 := fun j => ms_bo_in (hT.2.2 j)
  have ego : ma_go tb bd (K + 1) S c = ma_tr tb bd (ma_go tb bd K) S (ma_sp tb bd S) c := rfl
  rw [ego] at KK
  have h5 := ma_tx_5 (bd := bd) (I := ma_in tb 0 0) hok
  unfold ma_sp at KK
  cases hrd : ma_rd tb S with
  | true =>
    rw [hrd, if_pos rfl] at KK
    have hn5 := h5.2 hrd
    have KS : ∀ n' sl' b', gPo n b w u pl N BN tb bd (ma_st tb bd (ma_go tb bd K) S (0, 0, 0, false) c) n' sl' b' → Q (.inl (some (.int (Int32.ofNat (ma_st tb bd (ma_go tb bd K) S (0, 0, 0, false) c).1)))) (n', sl', hd b' f0) := by
      intro n' sl' b' hP
      have e := ma_tr_o (tb := tb) (bd := bd) (go := ma_go tb bd K) (S := S) (s := (0, 0, 0, false)) (c := c)
      have := KK n' sl' b' (hP.eq e.1 e.2.1 e.2.2)
      rw [e.1] at this
      exact this
    rw [ma_st_2, ma_ou_0 (by decide), if_neg (by decide)] at KS
    refine b_197_28 _ _ _ _ _ _ _ (by first | (exact hd_9) | assumption) (by omega) (by exact mL_get (by decide)) (by first | (exact hd_9) | assumption) (by omega) (by exact mL_get (by decide)) (by first | (exact hd_B) | (exact hd_J (by omega) rfl) | (exact hd_I (by omega) rfl) | (exact hd_L1 (by assumption)) | (exact hd_L2 (by assumption)) | (exact hd_L3 (by assumption)) | (exact hd_P4 (by assumption)) | (exact hd_P5 (by assumption)) | assumption) (by omega) (by first | decide | assumption) (by first | assumption | (exact ix_of (by omega) (by omega)) | (exact ⟨by decide, rfl, by decide⟩)) (by first | (exact hgl _ (by omega)) | assumption) (by first | (exact hd_9) | assumption) (by omega) (by rw [mL_len]; decide) (by first | (exact (congrFun (gw_S) _).trans (hd_8 (by assumption))) | assumption) (by omega) ?_
    refine hw_W (gw_S) ?_
    refine g_copy (b := b.sS (.ref (pl w))) hn hpln hp0n hplo hSt0 hp0w (fun b1 f1 s1 => ?_)
    have a1 : gAf w u pl b b1 := (gAf.sS (b := b) (v := .ref (pl w))).trans (gAf.cf f1 hwu) (Nat.le_refl _) (fun _ _ => rfl)
    have s1' : mg_S b1 p0 S := f1.st hp0w hSt0
    have hp0o := s1'.1
    have e1 : b1.L 0 p0 0 = S.tm := gS_tm s1'
    refine b_197_48 _ _ _ (by first | (exact hd_8 (by assumption)) | assumption) (by omega) (by exact rfl) (by first | (exact hd_8 (by assumption)) | assumption) (by omega) (by exact rfl) (by first | (exact hd_9) | assumption) (by omega) ?_
    rw [e1]
    refine g_bare (bA := b1) (I := ma_in tb 0 0) (b := b) IG hw hwu hc hC a1 f1.2.2.2.1 f1.2.2.2.2.1 (fun j _ _ _ _ => by rw [f1.1]; rfl) f1.2.2.1 s1 hS hmk hk100 (by omega) (fun b3 Z hz a3 C3 D3 e75 S3 w3 w8 _ => ?_) (fun b3 x hx h1 h7 a3 C3 D3 e75 _ => ?_)
    · refine b_197_61 _ _ _ ?_ ?_
      · intro z61
        first | (exact absurd z61 (by decide)) | (exact absurd (by decide) z61) | (exact absurd rfl z61) | (exact absurd z61 (of_nn (by omega))) | (exact absurd (of_np (by omega)) z61) | omega
      · intro z61
        refine b_197_67 _ _ _ (by first | (exact hd_9) | assumption) (by omega) ?_
        first | (refine g_stepped (o := ma_tx tb bd 0 (ma_in tb 0 0) S.tm S) (f := 0) (kd := 0) (m := 0) IG hw hwu hc C3 (fun Z' hZ => ?_) (fun x hx => ?_) (by decide) (by omega) (fun n' sl' b' hP => ?_); have hq : Z' = Z := Except.ok.inj (hZ.symm.trans hz); subst hq; obtain ⟨k', J', -, k1, nb, -, -, rd⟩ := ma_tx_ok hT.1.2.2 hbd hS hmk hk100 hNB (by decide) hZ; exact ⟨rfl, S3, w3, w8, J'.1, ⟨k', J'.2.2.2.1, J'.2.2.1, fun h => (by rw [rd] at h; cases h), by have := hkr hrd; omega⟩, nb⟩; exact absurd (hx.symm.trans hz) (fun h => by cases h); refine b_197_76 _ _ _ ?_; exact KS n' sl' b' (hP.pre a3 (fun q _ => congrFun D3 q) e75)) | skip
        all_goals refine g_stepped (o := ma_tx tb bd 0 (ma_in tb 0 0) S.tm S) (kd := 0) (m := 0) IG hw hwu hc C3 (fun Z hZ => ?_) (fun _ _ => of_17 h1 h7) (by decide) (by omega) (fun n' sl' b' hP => ?_)
        all_goals first | (exact absurd (hZ.symm.trans hx) (fun h => by cases h)) | (refine b_197_76 _ _ _ ?_; exact KS n' sl' b' (hP.pre a3 (fun q _ => congrFun D3 q) e75))
    · refine b_197_61 _ _ _ ?_ ?_
      · intro z61
        exact absurd (by rw [hx, (of_eq (b := 5) (by omega) (by omega)).mp z61]) hn5
      · intro z61
        refine b_197_67 _ _ _ (by first | (exact hd_9) | assumption) (by omega) ?_
        first | (refine g_stepped (o := ma_tx tb bd 0 (ma_in tb 0 0) S.tm S) (f := 0) (kd := 0) (m := 0) IG hw hwu hc C3 (fun Z' hZ => ?_) (fun x hx => ?_) (by decide) (by omega) (fun n' sl' b' hP => ?_); have hq : Z' = Z := Except.ok.inj (hZ.symm.trans hz); subst hq; obtain ⟨k', J', -, k1, nb, -, -, rd⟩ := ma_tx_ok hT.1.2.2 hbd hS hmk hk100 hNB (by decide) hZ; exact ⟨rfl, S3, w3, w8, J'.1, ⟨k', J'.2.2.2.1, J'.2.2.1, fun h => (by rw [rd] at h; cases h), by have := hkr hrd; omega⟩, nb⟩; exact absurd (hx.symm.trans hz) (fun h => by cases h); refine b_197_76 _ _ _ ?_; exact KS n' sl' b' (hP.pre a3 (fun q _ => congrFun D3 q) e75)) | skip
        all_goals refine g_stepped (o := ma_tx tb bd 0 (ma_in tb 0 0) S.tm S) (kd := 0) (m := 0) IG hw hwu hc C3 (fun Z hZ => ?_) (fun _ _ => of_17 h1 h7) (by decide) (by omega) (fun n' sl' b' hP => ?_)
        all_goals first | (exact absurd (hZ.symm.trans hx) (fun h => by cases h)) | (refine b_197_76 _ _ _ ?_; exact KS n' sl' b' (hP.pre a3 (fun q _ => congrFun D3 q) e75))
  | false =>
    rw [hrd, if_neg (by decide)] at KK
    have he5 := h5.1 hrd
    refine b_197_28 _ _ _ _ _ _ _ (by first | (exact hd_9) | assumption) (by omega) (by exact mL_get (by decide)) (by first | (exact hd_9) | assumption) (by omega) (by exact mL_get (by decide)) (by first | (exact hd_B) | (exact hd_J (by omega) rfl) | (exact hd_I (by omega) rfl) | (exact hd_L1 (by assumption)) | (exact hd_L2 (by assumption)) | (exact hd_L3 (by assumption)) | (exact hd_P4 (by assumption)) | (exact hd_P5 (by assumption)) | assumption) (by omega) (by first | decide | assumption) (by first | assumption | (exact ix_of (by omega) (by omega)) | (exact ⟨by decide, rfl, by decide⟩)) (by first | (exact hgl _ (by omega)) | assumption) (by first | (exact hd_9) | assumption) (by omega) (by rw [mL_len]; decide) (by first | (exact (congrFun (gw_S) _).trans (hd_8 (by assumption))) | assumption) (by omega) ?_
    refine hw_W (gw_S) ?_
    refine g_copy (b := b.sS (.ref (pl w))) hn hpln hp0n hplo hSt0 hp0w (fun b1 f1 s1 => ?_)
    have a1 : gAf w u pl b b1 := (gAf.sS (b := b) (v := .ref (pl w))).trans (gAf.cf f1 hwu) (Nat.le_refl _) (fun _ _ => rfl)
    have s1' : mg_S b1 p0 S := f1.st hp0w hSt0
    have hp0o := s1'.1
    have e1 : b1.L 0 p0 0 = S.tm := gS_tm s1'
    refine b_197_48 _ _ _ (by first | (exact hd_8 (by assumption)) | assumption) (by omega) (by exact rfl) (by first | (exact hd_8 (by assumption)) | assumption) (by omega) (by exact rfl) (by first | (exact hd_9) | assumption) (by omega) ?_
    rw [e1]
    refine g_bare (bA := b1) (I := ma_in tb 0 0) (b := b) IG hw hwu hc hC a1 f1.2.2.2.1 f1.2.2.2.2.1 (fun j _ _ _ _ => by rw [f1.1]; rfl) f1.2.2.1 s1 hS hmk hk100 (by omega) (fun b3 Z hz a3 C3 D3 e75 S3 w3 w8 _ => ?_) (fun b3 x hx h1 h7 a3 C3 D3 e75 q3 => ?_)
    · exact absurd (hz.symm.trans he5) (fun h => by cases h)
    · have hx5 : x = 5 := by rw [he5] at hx; injection hx with hx; exact hx.symm
      subst hx5
      have S3 : mg_S b3 p0 S := q3 p0 S hp0w s1'
      have hp3 := S3.1
      have e0 : b3.P 0 p0 0 = Int32.ofNat S.at := S3.2.1.1
      have hix : mi_ix (b3.P 0 p0 0) 800 S.at := by rw [e0]; exact ix_of (by omega) (by omega)
      have hrow := C3.1.1.2.1 S.at hat
      have hso := (mz_un (k := 99) hok).2.1
      have h33 := mz_so33 hso (by decide)
      refine b_197_61 _ _ _ ?_ ?_
      · intro z61
        refine b_197_77 _ _ _ _ _ _ (by first | (exact hd_9) | assumption) (by omega) (by exact mL_get (by decide)) (by first | (exact hd_8 (by assumption)) | assumption) (by omega) (by exact rfl) (by first | (exact hd_I (by omega) rfl) | assumption) (Or.inl (by omega)) (by first | assumption | (exact ix_of (by omega) (by omega)) | (exact ⟨by decide, rfl, by decide⟩)) ?_ ?_
        · intro z77
          skip
          have h4 : (tb S.at).1 = 4 := (of_eq (a := (tb S.at).1) (b := 4) (by omega) (by omega)).mp (hrow.1.symm.trans z77)
          rw [if_pos h4] at KK
          have hls := (mz_un (k := 99) hok).2.2.2.2.1 (by rw [h4]; decide)
          have w7 : b3.I 514 S.at = mz_lk (tb S.at).2.2.2.2.2.1 := hrow.2.2.2.2.2.2.2.1 (by rw [h4]; decide)
          refine b_197_92 _ _ _ _ _ _ (by first | (exact hd_9) | assumption) (by omega) (by exact mL_get (by decide)) (by first | (exact hd_8 (by assumption)) | assumption) (by omega) (by exact rfl) (by first | (exact hd_I (by omega) rfl) | assumption) (Or.inl (by omega)) (by first | assumption | (exact ix_of (by omega) (by omega)) | (exact ⟨by decide, rfl, by decide⟩)) ?_
          rw [w7]
          have hL : gLc n b w u pl p0 S N BN tb bd n sl b3 u pl c := ⟨C3, ⟨S3, hp0n, hp0⟩, hwu, hc, a3, Nat.le_refl _, ⟨fun _ _ => rfl, fun i h1 h2 => absurd h2 (by omega)⟩, Nat.le_refl _, fun q _ => congrFun D3 q, e75⟩
          exact g_acts IG hw hwu hS hmk hk100 hkK hrd hNB h4 hdd 8 _ _ n sl b3 u pl c _ hls hL KK
        · intro z77
          have h4 : ¬ (tb S.at).1 = 4 := fun h => z77 (by rw [hrow.1, h]; rfl)
          rw [if_neg h4] at KK
          refine b_197_90 _ _ _ ?_
          exact KK n sl b3 ⟨u, pl, C3, a3, Nat.le_refl _, ⟨fun _ _ => rfl, fun i h1 h2 => absurd h2 (by omega)⟩, Nat.le_refl _, fun q _ => congrFun D3 q, ⟨fun _ => e75, fun h => absurd h (show ¬ (0 : Nat) = 1 by decide)⟩, (show (0 : Nat) ≤ 2 by decide)⟩
      · intro z61
        first | (exact absurd z61 (by decide)) | (exact absurd (by decide) z61) | (exact absurd rfl z61) | (exact absurd z61 (of_nn (by omega))) | (exact absurd (of_np (by omega)) z61) | omega
theorem g_goOn : ∀ K, gIG f0 N BN tb bd K := by
  intro K
  induction K with
  | zero =>
    intro n sl b w u pl c S p0 d Q _ _ _ _ _ _ _ _ hNd
    obtain ⟨k, -, hmk, -, hk⟩ := hNd
    have : k = 0 := by omega
    subst this
    exact absurd hmk (by intro h; exact h)
  | succ K IG =>
    intro n sl b w u pl c S p0 d Q hw hwu hc hC hSt hp0n hp0 hS hNd hNB hdd KK
    obtain ⟨hT, h57, hBy, h73, h74⟩ := id hC
    have hn := hBy.2.2.2.2.2.2.2
    obtain ⟨dd, hd1⟩ : ∃ dd, d = dd + 1 := ⟨d - 1, by omega⟩
    have hixw : mi_ix (b.I 505 74) 2000 w := by
      rw [h74.1]
      exact ix_of (by omega) (by omega)
    by_cases hwu' : w < u
    · have hg : va_rf (b.B w) = .ref (pl w) := by
        rw [(hBy.1 w hwu').1]
        rfl
      subst hd1
      refine b_197_0 _ _ _ _ _ _ _ (by first | (exact hd_9) | assumption) (by omega) (by exact mL_get (by decide)) (by first | (exact hd_9) | assumption) (by omega) (by exact mL_get (by decide)) (by first | (exact hd_B) | (exact hd_J (by omega) rfl) | (exact hd_I (by omega) rfl) | (exact hd_L1 (by assumption)) | (exact hd_L2 (by assumption)) | (exact hd_L3 (by assumption)) | (exact hd_P4 (by assumption)) | (exact hd_P5 (by assumption)) | assumption) (by omega) (by first | decide | assumption) (by first | assumption | (exact ix_of (by omega) (by omega)) | (exact ⟨by decide, rfl, by decide⟩)) (by first | assumption | (exact mL_get (by decide)) | (rw [mL_len]; decide) | (simp only [mL_set]; exact mL_get (by decide)) | (simp only [mL_set, mL_len]; decide) | (exact va_eq) | (exact (va_ne (by omega)).trans (by assumption)) | (exact (va_ne (by omega)).trans va_eq) | (exact (va_ne (by omega)).trans ((va_ne (by omega)).trans (by assumption))) | (exact (va_ne (by omega)).trans ((va_ne (by omega)).trans ((va_ne (by omega)).trans (by assumption)))) | rfl | (exact Or.inl rfl) | (exact Or.inr rfl) | omega | (exact Nat.le_of_ble_eq_true rfl) | decide | (exact ⟨by decide, rfl, by decide⟩)) ?_ ?_ (by first | assumption | (exact mL_get (by decide)) | (rw [mL_len]; decide) | (simp only [mL_set]; exact mL_get (by decide)) | (simp only [mL_set, mL_len]; decide) | (exact va_eq) | (exact (va_ne (by omega)).trans (by assumption)) | (exact (va_ne (by omega)).trans va_eq) | (exact (va_ne (by omega)).trans ((va_ne (by omega)).trans (by assumption))) | (exact (va_ne (by omega)).trans ((va_ne (by omega)).trans ((va_ne (by omega)).trans (by assumption)))) | rfl | (exact Or.inl rfl) | (exact Or.inr rfl) | omega | (exact Nat.le_of_ble_eq_true rfl) | decide | (exact ⟨by decide, rfl, by decide⟩))
      · intro z0
        cases z0
      · intro z0
        skip
        intro hq0
        exact g_go28 IG hw hwu' hc hC hSt hp0n hp0 hS hNd hNB (by omega) KK
    · have huw : u = w := by omega
      subst huw
      have hBn : b.B u = none := hBy.2.1 u (Nat.le_refl _)
      have hg : va_rf (b.B u) = .null := by
        rw [hBn]
        rfl
      have hr1 := hBy.2.2.2.2.2.1
      have hr2 := hBy.2.2.2.2.2.2.1
      subst hd1
      have new : ∀ e' : mr_E, mi_W (dd + 1) 197 28 [some (.ref 505), some (.ref p0), none, none, none, none] [] (n + 6, sl + 7 + 64, hd ((mg_new b n e').sB (va_up b.B u (some n))) f0) Q := by
        intro e'
        have hDl : ∀ q, q < n → ((mg_new b n e').sB (va_up b.B u (some n))).D q = b.D q := fun q hq => mg_new_D (e := e') (Or.inl hq)
        have hP : ∀ k r, ¬ r = n → ((mg_new b n e').sB (va_up b.B u (some n))).P k r = b.P k r ∧ ((mg_new b n e').sB (va_up b.B u (some n))).L k r = b.L k r := fun k r hr => ⟨if_neg hr, if_neg hr⟩
        have hpl : ∀ i, i < u → va_up pl u n i = pl i := fun i hi => va_ne (by omega)
        have fN : gAf u (u + 1) (va_up pl u n) b ((mg_new b n e').sB (va_up b.B u (some n))) := ⟨fun _ _ _ _ _ => rfl, fun _ _ _ _ _ _ _ => rfl, fun _ _ => rfl, fun _ _ _ => rfl, fun k r hr => hP k r (fun e => hr u (Nat.le_refl _) (by omega) (by rw [va_eq]; exact e)), fun _ _ => ⟨rfl, rfl, rfl⟩⟩
        have C' : gCx (n + 6) (sl + 7 + 64) ((mg_new b n e').sB (va_up b.B u (some n))) u (u + 1) (va_up pl u n) c N BN tb bd := by
          refine ⟨hT, h57, ⟨fun i hi => ?_, fun i hi => ?_, fun i j hi hj hij => ?_, fun q hq => ?_, by omega, by rw [hDl 0 (by omega)]; omega, by rw [hDl 1 (by omega)]; omega, by omega⟩, h73, h74⟩
          · by_cases e : i = u
            · rw [e, va_eq]
              refine ⟨?_, by omega, by omega, mg_new_o (e := e') hn⟩
              show va_up b.B u (some n) u = _
              rw [va_eq]
            · rw [va_ne e]
              obtain ⟨g1, g2, g3, g4⟩ := hBy.1 i (by omega)
              refine ⟨?_, g2, by omega, mg_o_D g4 hDl g3⟩
              show va_up b.B u (some n) i = _
              rw [va_ne e]
              exact g1
          · show va_up b.B u (some n) i = none
            rw [va_ne (by omega)]
            exact hBy.2.1 i (by omega)
          · by_cases e1 : i = u
            · by_cases e2 : j = u
              · omega
              · rw [e1, va_eq, va_ne e2] at hij
                have := (hBy.1 j (by omega)).2.2.1
                omega
            · by_cases e2 : j = u
              · rw [e2, va_eq, va_ne e1] at hij
                have := (hBy.1 i (by omega)).2.2.1
                omega
              · rw [va_ne e1, va_ne e2] at hij
                exact hBy.2.2.1 i j (by omega) (by omega) hij
          · exact (mg_new_D (e := e') (Or.inr (by omega))).trans (hBy.2.2.2.1 q (by omega))
        have S' : mg_S ((mg_new b n e').sB (va_up b.B u (some n))) p0 S := by
          have fz := fun k => hP k p0 (by omega)
          obtain ⟨g0, g⟩ := hSt
          refine ⟨mg_o_D g0 hDl hp0n, ?_⟩
          rw [(fz 0).1, (fz 0).2, (fz 1).2, (fz 2).2, (fz 3).2, (fz 4).1, (fz 5).1]
          exact g
        refine g_go28 IG hw (by omega) hc C' S' (by omega) (fun i h1 h2 => ?_) hS hNd hNB (by omega) (fun n' sl' b' hP' => KK n' sl' b' (gPo.tr fN (by omega) ⟨hpl, fun i h1 h2 => ?_⟩ (by omega) hDl rfl hP'))
        · rw [show i = u by omega, va_eq]
          omega
        · rw [show i = u by omega, va_eq]
          exact Nat.le_refl _
      refine b_197_0 _ _ _ _ _ _ _ (by first | (exact hd_9) | assumption) (by omega) (by exact mL_get (by decide)) (by first | (exact hd_9) | assumption) (by omega) (by exact mL_get (by decide)) (by first | (exact hd_B) | (exact hd_J (by omega) rfl) | (exact hd_I (by omega) rfl) | (exact hd_L1 (by assumption)) | (exact hd_L2 (by assumption)) | (exact hd_L3 (by assumption)) | (exact hd_P4 (by assumption)) | (exact hd_P5 (by assumption)) | assumption) (by omega) (by first | decide | assumption) (by first | assumption | (exact ix_of (by omega) (by omega)) | (exact ⟨by decide, rfl, by decide⟩)) (by first | assumption | (exact mL_get (by decide)) | (rw [mL_len]; decide) | (simp only [mL_set]; exact mL_get (by decide)) | (simp only [mL_set, mL_len]; decide) | (exact va_eq) | (exact (va_ne (by omega)).trans (by assumption)) | (exact (va_ne (by omega)).trans va_eq) | (exact (va_ne (by omega)).trans ((va_ne (by omega)).trans (by assumption))) | (exact (va_ne (by omega)).trans ((va_ne (by omega)).trans ((va_ne (by omega)).trans (by assumption)))) | rfl | (exact Or.inl rfl) | (exact Or.inr rfl) | omega | (exact Nat.le_of_ble_eq_true rfl) | decide | (exact ⟨by decide, rfl, by decide⟩)) ?_ ?_ (by first | assumption | (exact mL_get (by decide)) | (rw [mL_len]; decide) | (simp only [mL_set]; exact mL_get (by decide)) | (simp only [mL_set, mL_len]; decide) | (exact va_eq) | (exact (va_ne (by omega)).trans (by assumption)) | (exact (va_ne (by omega)).trans va_eq) | (exact (va_ne (by omega)).trans ((va_ne (by omega)).trans (by assumption))) | (exact (va_ne (by omega)).trans ((va_ne (by omega)).trans ((va_ne (by omega)).trans (by assumption)))) | rfl | (exact Or.inl rfl) | (exact Or.inr rfl) | omega | (exact Nat.le_of_ble_eq_true rfl) | decide | (exact ⟨by decide, rfl, by decide⟩))
      · intro z0
        refine b_197_12 _ _ _ (by first | (exact hd_9) | assumption) (by omega) (by exact mL_get (by decide)) (by first | (exact hd_9) | assumption) (by omega) (by exact mL_get (by decide)) (by first | assumption | (exact mL_get (by decide)) | (rw [mL_len]; decide) | (simp only [mL_set]; exact mL_get (by decide)) | (simp only [mL_set, mL_len]; decide) | (exact va_eq) | (exact (va_ne (by omega)).trans (by assumption)) | (exact (va_ne (by omega)).trans va_eq) | (exact (va_ne (by omega)).trans ((va_ne (by omega)).trans (by assumption))) | (exact (va_ne (by omega)).trans ((va_ne (by omega)).trans ((va_ne (by omega)).trans (by assumption)))) | rfl | (exact Or.inl rfl) | (exact Or.inr rfl) | omega | (exact Nat.le_of_ble_eq_true rfl) | decide | (exact ⟨by decide, rfl, by decide⟩)) (by first | assumption | (exact mL_get (by decide)) | (rw [mL_len]; decide) | (simp only [mL_set]; exact mL_get (by decide)) | (simp only [mL_set, mL_len]; decide) | (exact va_eq) | (exact (va_ne (by omega)).trans (by assumption)) | (exact (va_ne (by omega)).trans va_eq) | (exact (va_ne (by omega)).trans ((va_ne (by omega)).trans (by assumption))) | (exact (va_ne (by omega)).trans ((va_ne (by omega)).trans ((va_ne (by omega)).trans (by assumption)))) | rfl | (exact Or.inl rfl) | (exact Or.inr rfl) | omega | (exact Nat.le_of_ble_eq_true rfl) | decide | (exact ⟨by decide, rfl, by decide⟩)) ?_
        refine sb_stnew (p := n) (sl := sl + 7) (by omega) (by omega) va_eq (fun f' e' hS' hf' => ?_)
        have hff : f' = hd (mg_new b n e') f0 := hd_new hn hBy.2.2.2.1 hS' (fun z hz => (hf' z hz).trans (va_ne (by omega)))
        rw [hff]
        refine b_197_27 _ _ _ 2000 u 6 13 b.B (mg_f (mg_new b n e') n) (by omega) hixw hd_B (hd_8 (mg_new_o hn)) (by omega) (by decide +kernel) ?_
        refine hw_W gw_B ?_
        exact new e'
      · intro z0
        intro h0
        cases h0
end
