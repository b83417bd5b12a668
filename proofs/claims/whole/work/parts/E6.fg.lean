/-! the second object: one reduction -/
section
variable {d e n sl N : Nat} {b b0 b1 b2 : mg_A} {f0 : Nat → mi_C} {Q : (Option Value ⊕ Nat) → mi_H → Prop} {p q i j c k r m A B D x y z : Nat} {u : Nat × Nat} {tb : Nat → ms_N} {lo hi v w : Int64} {Z : mv_Z} {wal : Bool} {o2 o3 o4 o5 o6 o7 o8 : Option Value}
theorem g_ff (hn : 575 ≤ n) (h : gM n b p N tb lo hi wal Z) (K : mi_W d 175 84 [some (.ref 505), some (.int (Int32.ofNat m)), some (.int (Int32.ofNat (mv_ff Z.S.ac 32 0))), o4, o5, o6, o7, o8] [] (n, sl, hd b f0) Q) : ∀ (t k : Nat), k + t = 32 → mv_ff Z.S.ac t k = mv_ff Z.S.ac 32 0 → mi_W d 175 58 [some (.ref 505), some (.int (Int32.ofNat m)), some (.int (Int32.ofNat k)), o4, o5, o6, o7, o8] [] (n, sl, hd b f0) Q := by
  obtain ⟨⟨hps, hpn⟩, -, -, hSt, -⟩ := id h
  have hpo := hSt.1
  have hac := hSt.2.2.2.1
  intro t
  induction t with
  | zero =>
    intro k hk he
    have he : k = mv_ff Z.S.ac 32 0 := he
    refine b_175_58 _ _ _ ?_ ?_
    · intro z58
      rw [he]
      exact K
    · intro z58
      exact absurd ((i_le (a := 32) rfl rfl (by omega) (by omega)).mpr (by omega)) z58
  | succ t ih =>
    intro k hk he
    have hix := ix_of (w := k) (m := 32) (by omega) (by omega)
    unfold mv_ff at he
    refine b_175_58 _ _ _ ?_ ?_
    · intro z58
      exact absurd ((i_le (a := 32) rfl rfl (by omega) (by omega)).mp z58) (by omega)
    · intro z58
      refine b_175_64 _ _ _ _ _ _ (by first | (exact hd_9) | assumption) (by omega) (by exact (mL_get (by decide)).trans (congrArg some (by assumption))) (by first | (exact hd_8 (by assumption)) | assumption) (by omega) (by exact rfl) (by first | (exact hd_J (by omega) rfl) | (exact hd_L1 (by assumption)) | (exact hd_L2 (by assumption)) | (exact hd_L3 (by assumption)) | assumption) (by omega) (by first | assumption | (exact ix_of (by omega) (by omega)) | (exact ⟨by decide, rfl, by decide⟩)) ?_ ?_
      · intro z64
        rw [if_neg (fun h0 => z64 (lg_e.mpr ((hac k (by omega)).trans h0)))] at he
        rw [he]
        exact K
      · intro z64
        rw [if_pos ((hac k (by omega)).symm.trans (lg_e.mp (Classical.not_not.mp z64)))] at he
        refine b_175_78 _ _ _ ?_
        rw [of_succ]
        exact ih (k + 1) (by omega) he
theorem g_s0 (hn : 575 ≤ n) (h : gM n b p N tb lo hi wal Z) (hS : mv_ok Z.S) (hw1 : Z.ws.1 < 148) (hp1 : Z.ps.1 < 148) (hok : mz_ok tb N 100 0 Z.S.at) (hcm : tb Z.S.at = (0, A, B, D, v, x, y, z, u)) (KK : gKs n sl f0 Q (e + 103) b p N tb lo hi wal Z (mv_s1 (mv_E tb Z.S lo hi 100) lo hi Z (0, A, B, D, v, x, y, z, u))) : mi_W (e + 103) 175 0 [some (.ref 505), o2, o3, o4, o5, o6, o7, o8] [] (n, sl, hd b f0) Q := by
  obtain ⟨⟨hps, hpn⟩, ⟨hlo, hhi, hwal⟩, ⟨hN8, hrg, hto⟩, hSt, hev, hlf⟩ := id h
  have hpo := hSt.1
  have hm : Z.S.at < N := mz_u1 hok
  have hat : b.P 0 p 0 = Int32.ofNat Z.S.at := hSt.2.1.1
  obtain ⟨-, hso, had, hx, hls, hy, hz⟩ := mz_un (k := 99) hok
  have hrow := hrg _ hm
  rw [hcm] at hrow had hx hy hz
  unfold gRow at hrow
  unfold mz_ad at had
  dsimp only at hrow had hx hy hz
  obtain ⟨w0, w1, w2, w3, w4, w5, w6, w7, w8, w9, w10, w11, w12, w13, w14⟩ := hrow
  have hix : mi_ix (b.P 0 p 0) 800 Z.S.at := by
    rw [hat]
    exact ix_of (by omega) (by omega)
  have hix2 := ix_of (w := Z.S.at) (m := 800) (by omega) (by omega)
  have h0 : (b.sX 46 0).I 509 Z.S.at = 0 := w0
  rw [mv_s1_0] at KK
  have E := g_E (sl := sl) (f0 := f0) hn (h.rk hS) 100 (by omega)
  have hle := mv_ff_le (f := Z.S.ac) 32 0
  have hac := hSt.2.2.2.1
  have h' : gM n (gvL b false) p N tb lo hi wal Z := h.vL
  have FF := fun K => g_ff (o4 := o4) (o5 := o5) (o6 := o6) (o7 := o7) (o8 := o8) (m := Z.S.at) (d := e + 103) (sl := sl) (f0 := f0) (Q := Q) hn h' K 32 0 rfl rfl
  generalize mv_ff Z.S.ac 32 0 = c at *
  refine b_175_0 (t33 := 56) _ _ _ _ _ _ (by first | (exact hd_9) | assumption) (by omega) (by exact (mL_get (by decide)).trans (congrArg some (by assumption))) (by first | (exact hd_8 (by assumption)) | assumption) (by omega) (by exact rfl) (by first | (exact hd_9) | assumption) (by omega) (by rw [mL_len]; decide) (by first | assumption | (exact mL_get (by decide)) | (rw [mL_len]; decide) | (simp only [mL_set]; exact mL_get (by decide)) | (simp only [mL_set, mL_len]; decide) | (exact va_eq) | (exact (va_ne (by omega)).trans (by assumption)) | (exact (va_ne (by omega)).trans va_eq) | (exact (va_ne (by omega)).trans ((va_ne (by omega)).trans (by assumption))) | (exact (va_ne (by omega)).trans ((va_ne (by omega)).trans ((va_ne (by omega)).trans (by assumption)))) | rfl | (exact Or.inl rfl) | (exact Or.inr rfl) | omega | (exact Nat.le_of_ble_eq_true rfl) | decide | (exact ⟨by decide, rfl, by decide⟩)) (by first | (exact (congrFun (gw_X (by decide)) _).trans (hd_9)) | assumption) (by omega) (by exact mL_get (by decide)) (by first | (exact (congrFun (gw_X (by decide)) _).trans (hd_I (by omega) rfl)) | assumption) (Or.inl (by omega)) (by first | assumption | (exact ix_of (by omega) (by omega)) | (exact ⟨by decide, rfl, by decide⟩)) (by rw [h0]; decide +kernel) ?_
  refine hw_W (gw_X (by decide)) ?_
  rw [hat, show b.sX 46 0 = gvL b false from rfl]
  refine b_175_56 _ _ _ ?_
  refine FF ?_
  refine b_175_84 _ _ _ ?_ ?_
  · intro z84
    have hc : ¬ c = 32 := fun e => z84 (by rw [e]; rfl)
    have hc2 : c < 32 := by omega
    rw [if_neg hc] at KK
    have hixc := ix_of (w := c) (m := 32) (by omega) (by omega)
    refine b_175_92 _ _ _ _ _ _ (by first | (exact hd_9) | assumption) (by omega) (by exact (mL_get (by decide)).trans (congrArg some (by assumption))) (by first | (exact hd_8 (by assumption)) | assumption) (by omega) (by exact rfl) (by first | (exact hd_J (by omega) rfl) | (exact hd_L1 (by assumption)) | (exact hd_L2 (by assumption)) | (exact hd_L3 (by assumption)) | assumption) (by omega) (by first | assumption | (exact ix_of (by omega) (by omega)) | (exact ⟨by decide, rfl, by decide⟩)) (by first | (exact hd_9) | assumption) (by omega) ?_
    obtain ⟨d1, d2⟩ := of_d4 ⟨c, hc2⟩
    dsimp only at d1 d2
    rw [d1, d2, show (gvL b false).L 1 p c = Z.S.ac c from hac c hc2]
    refine g_pay hn h' hp1 (fun b1 f1 k1 _ => ?_)
    have hps1 := k1.1.1
    have hpo1 := k1.2.2.2.1.1
    refine b_175_114 _ _ _ _ _ _ (by first | (exact hd_9) | assumption) (by omega) (by exact (mL_get (by decide)).trans (congrArg some (by assumption))) (by first | (exact hd_8 (by assumption)) | assumption) (by omega) (by exact rfl) (by first | (exact hd_J (by omega) rfl) | (exact hd_L1 (by assumption)) | (exact hd_L2 (by assumption)) | (exact hd_L3 (by assumption)) | assumption) (by omega) (by first | assumption | (exact ix_of (by omega) (by omega)) | (exact ⟨by decide, rfl, by decide⟩)) ?_
    refine hw_W (gw_L1 hpo1) ?_
    exact g_598 hn (fun o2' => KK.2.1 _ rfl _ _ _ _ _ _ _ _ ((gMf.re.vL.trans f1).sL.sX (k := 58) (Or.inr (Or.inr (Or.inr rfl)))) (k1.ac (j := c) (v := 0)).x58 rfl)
  · intro z84
    have hc : c = 32 := (of_eq (by omega) (by omega)).mp (Classical.not_not.mp z84)
    rw [if_pos hc] at KK
    refine b_175_90 _ _ _ ?_
    exact KK.1 rfl _ gMf.re.vL h' rfl
theorem g_s3 (hn : 575 ≤ n) (h : gM n b p N tb lo hi wal Z) (hS : mv_ok Z.S) (hw1 : Z.ws.1 < 148) (hp1 : Z.ps.1 < 148) (hok : mz_ok tb N 100 0 Z.S.at) (hcm : tb Z.S.at = (3, A, B, D, v, x, y, z, u)) (KK : gKs n sl f0 Q (e + 103) b p N tb lo hi wal Z (mv_s1 (mv_E tb Z.S lo hi 100) lo hi Z (3, A, B, D, v, x, y, z, u))) : mi_W (e + 103) 175 0 [some (.ref 505), o2, o3, o4, o5, o6, o7, o8] [] (n, sl, hd b f0) Q := by
  obtain ⟨⟨hps, hpn⟩, ⟨hlo, hhi, hwal⟩, ⟨hN8, hrg, hto⟩, hSt, hev, hlf⟩ := id h
  have hpo := hSt.1
  have hm : Z.S.at < N := mz_u1 hok
  have hat : b.P 0 p 0 = Int32.ofNat Z.S.at := hSt.2.1.1
  obtain ⟨-, hso, had, hx, hls, hy, hz⟩ := mz_un (k := 99) hok
  have hrow := hrg _ hm
  rw [hcm] at hrow had hx hy hz
  unfold gRow at hrow
  unfold mz_ad at had
  dsimp only at hrow had hx hy hz
  obtain ⟨w0, w1, w2, w3, w4, w5, w6, w7, w8, w9, w10, w11, w12, w13, w14⟩ := hrow
  have hix : mi_ix (b.P 0 p 0) 800 Z.S.at := by
    rw [hat]
    exact ix_of (by omega) (by omega)
  have hix2 := ix_of (w := Z.S.at) (m := 800) (by omega) (by omega)
  have h0 : (b.sX 46 0).I 509 Z.S.at = 3 := w0
  rw [mv_s1_3] at KK
  have E := g_E (sl := sl) (f0 := f0) hn (h.rk hS) 100 (by omega)
  have h5 : ∀ l, (gvL b l).I 513 Z.S.at = Int32.ofNat x := fun _ => w5 (by decide)
  have h9 : (gvL b false).I 510 Z.S.at = Int32.ofNat y := w9 (by decide)
  have h11 : (gvL b false).I 511 Z.S.at = Int32.ofNat z := w11 (by decide)
  have hxk : mz_ok tb N 100 2 x := mz_dn (hx (by decide)).2
  have hy8 : y ≤ 800 := by have := (mz_un (k := 98) (hy (by decide)).2).1; omega
  have hz8 : z ≤ 800 := by have := (mz_un (k := 98) (hz (by decide)).2).1; omega
  cases hv : (mv_E tb Z.S lo hi 100).2 x with
  | none =>
    rw [hv] at KK
    refine b_175_0 (t33 := 366) _ _ _ _ _ _ (by first | (exact hd_9) | assumption) (by omega) (by exact (mL_get (by decide)).trans (congrArg some (by assumption))) (by first | (exact hd_8 (by assumption)) | assumption) (by omega) (by exact rfl) (by first | (exact hd_9) | assumption) (by omega) (by rw [mL_len]; decide) (by first | assumption | (exact mL_get (by decide)) | (rw [mL_len]; decide) | (simp only [mL_set]; exact mL_get (by decide)) | (simp only [mL_set, mL_len]; decide) | (exact va_eq) | (exact (va_ne (by omega)).trans (by assumption)) | (exact (va_ne (by omega)).trans va_eq) | (exact (va_ne (by omega)).trans ((va_ne (by omega)).trans (by assumption))) | (exact (va_ne (by omega)).trans ((va_ne (by omega)).trans ((va_ne (by omega)).trans (by assumption)))) | rfl | (exact Or.inl rfl) | (exact Or.inr rfl) | omega | (exact Nat.le_of_ble_eq_true rfl) | decide | (exact ⟨by decide, rfl, by decide⟩)) (by first | (exact (congrFun (gw_X (by decide)) _).trans (hd_9)) | assumption) (by omega) (by exact mL_get (by decide)) (by first | (exact (congrFun (gw_X (by decide)) _).trans (hd_I (by omega) rfl)) | assumption) (Or.inl (by omega)) (by first | assumption | (exact ix_of (by omega) (by omega)) | (exact ⟨by decide, rfl, by decide⟩)) (by rw [h0]; decide +kernel) ?_
    refine hw_W (gw_X (by decide)) ?_
    rw [hat, show b.sX 46 0 = gvL b false from rfl]
    refine b_175_366 _ _ _ _ _ _ (by first | (exact hd_9) | assumption) (by omega) (by exact mL_get (by decide)) (by first | (exact hd_I (by omega) rfl) | assumption) (Or.inl (by omega)) (by first | assumption | (exact ix_of (by omega) (by omega)) | (exact ⟨by decide, rfl, by decide⟩)) (by first | (exact hd_9) | assumption) (by omega) ?_
    rw [h5]
    refine E.2 x _ false _ (by omega) hxk (fun r l hb c => ?_)
    rw [hv] at c
    have hl : l = true := c
    subst hl
    refine b_175_376 _ _ _ (by first | (exact hd_9) | assumption) (by omega) (by exact mL_get (by decide)) ?_ ?_
    · intro z376
      exact absurd z376 gvL_46t
    · intro z376
      refine b_175_384 _ _ _ ?_
      exact KK.2.2 6 rfl _ gMf.re.vL
  | some bb =>
    rw [hv] at KK
    refine b_175_0 (t33 := 366) _ _ _ _ _ _ (by first | (exact hd_9) | assumption) (by omega) (by exact (mL_get (by decide)).trans (congrArg some (by assumption))) (by first | (exact hd_8 (by assumption)) | assumption) (by omega) (by exact rfl) (by first | (exact hd_9) | assumption) (by omega) (by rw [mL_len]; decide) (by first | assumption | (exact mL_get (by decide)) | (rw [mL_len]; decide) | (simp only [mL_set]; exact mL_get (by decide)) | (simp only [mL_set, mL_len]; decide) | (exact va_eq) | (exact (va_ne (by omega)).trans (by assumption)) | (exact (va_ne (by omega)).trans va_eq) | (exact (va_ne (by omega)).trans ((va_ne (by omega)).trans (by assumption))) | (exact (va_ne (by omega)).trans ((va_ne (by omega)).trans ((va_ne (by omega)).trans (by assumption)))) | rfl | (exact Or.inl rfl) | (exact Or.inr rfl) | omega | (exact Nat.le_of_ble_eq_true rfl) | decide | (exact ⟨by decide, rfl, by decide⟩)) (by first | (exact (congrFun (gw_X (by decide)) _).trans (hd_9)) | assumption) (by omega) (by exact mL_get (by decide)) (by first | (exact (congrFun (gw_X (by decide)) _).trans (hd_I (by omega) rfl)) | assumption) (Or.inl (by omega)) (by first | assumption | (exact ix_of (by omega) (by omega)) | (exact ⟨by decide, rfl, by decide⟩)) (by rw [h0]; decide +kernel) ?_
    refine hw_W (gw_X (by decide)) ?_
    rw [hat, show b.sX 46 0 = gvL b false from rfl]
    refine b_175_366 _ _ _ _ _ _ (by first | (exact hd_9) | assumption) (by omega) (by exact mL_get (by decide)) (by first | (exact hd_I (by omega) rfl) | assumption) (Or.inl (by omega)) (by first | assumption | (exact ix_of (by omega) (by omega)) | (exact ⟨by decide, rfl, by decide⟩)) (by first | (exact hd_9) | assumption) (by omega) ?_
    rw [h5]
    refine E.2 x _ false _ (by omega) hxk (fun r l hb c => ?_)
    rw [hv] at c
    have hl : l = false ∧ r = cvt bb := c
    obtain ⟨rfl, rfl⟩ := hl
    refine b_175_376 _ _ _ (by first | (exact hd_9) | assumption) (by omega) (by exact mL_get (by decide)) ?_ ?_
    · intro z376
      refine b_175_387 _ _ _ (by first | (exact hd_9) | assumption) (by omega) (by exact (mL_get (by decide)).trans (congrArg some (by assumption))) ?_ ?_
      · intro z387
        have hbb : bb = false := by cases bb with | false => rfl | true => exact absurd z387 (by decide)
        subst hbb
        refine b_175_404 _ _ _ _ _ _ (by first | (exact hd_9) | assumption) (by omega) (by exact mL_get (by decide)) (by first | (exact hd_I (by omega) rfl) | assumption) (Or.inl (by omega)) (by first | assumption | (exact ix_of (by omega) (by omega)) | (exact ⟨by decide, rfl, by decide⟩)) ?_
        rw [h11]
        refine b_175_410 _ _ _ (by first | (exact hd_8 (by assumption)) | assumption) (by omega) (Nat.le_of_ble_eq_true rfl) ?_
        refine hw_W (gw_at (by assumption)) ?_
        refine g_598 hn (fun o2' => ?_)
        first | exact KK.2.1 _ rfl _ _ _ _ _ _ _ _ (gMf.re.vL.sP.sX (k := 58) (Or.inr (Or.inr (Or.inr rfl)))) (h.vL.go hy8).x58 rfl | exact KK.2.1 _ rfl _ _ _ _ _ _ _ _ (gMf.re.vL.sP.sX (k := 58) (Or.inr (Or.inr (Or.inr rfl)))) (h.vL.go hz8).x58 rfl
      · intro z387
        have hbb : bb = true := by cases bb with | true => rfl | false => exact absurd rfl z387
        subst hbb
        refine b_175_395 _ _ _ _ _ _ (by first | (exact hd_9) | assumption) (by omega) (by exact mL_get (by decide)) (by first | (exact hd_I (by omega) rfl) | assumption) (Or.inl (by omega)) (by first | assumption | (exact ix_of (by omega) (by omega)) | (exact ⟨by decide, rfl, by decide⟩)) ?_
        rw [h9]
        refine b_175_410 _ _ _ (by first | (exact hd_8 (by assumption)) | assumption) (by omega) (Nat.le_of_ble_eq_true rfl) ?_
        refine hw_W (gw_at (by assumption)) ?_
        refine g_598 hn (fun o2' => ?_)
        first | exact KK.2.1 _ rfl _ _ _ _ _ _ _ _ (gMf.re.vL.sP.sX (k := 58) (Or.inr (Or.inr (Or.inr rfl)))) (h.vL.go hy8).x58 rfl | exact KK.2.1 _ rfl _ _ _ _ _ _ _ _ (gMf.re.vL.sP.sX (k := 58) (Or.inr (Or.inr (Or.inr rfl)))) (h.vL.go hz8).x58 rfl
    · intro z376
      exact absurd rfl z376
theorem g_s4 (hn : 575 ≤ n) (h : gM n b p N tb lo hi wal Z) (hS : mv_ok Z.S) (hw1 : Z.ws.1 < 148) (hp1 : Z.ps.1 < 148) (hok : mz_ok tb N 100 0 Z.S.at) (hcm : tb Z.S.at = (4, A, B, D, v, x, y, z, u)) (KK : gKs n sl f0 Q (e + 103) b p N tb lo hi wal Z (mv_s1 (mv_E tb Z.S lo hi 100) lo hi Z (4, A, B, D, v, x, y, z, u))) : mi_W (e + 103) 175 0 [some (.ref 505), o2, o3, o4, o5, o6, o7, o8] [] (n, sl, hd b f0) Q := by
  obtain ⟨⟨hps, hpn⟩, ⟨hlo, hhi, hwal⟩, ⟨hN8, hrg, hto⟩, hSt, hev, hlf⟩ := id h
  have hpo := hSt.1
  have hm : Z.S.at < N := mz_u1 hok
  have hat : b.P 0 p 0 = Int32.ofNat Z.S.at := hSt.2.1.1
  obtain ⟨-, hso, had, hx, hls, hy, hz⟩ := mz_un (k := 99) hok
  have hrow := hrg _ hm
  rw [hcm] at hrow had hx hy hz
  unfold gRow at hrow
  unfold mz_ad at had
  dsimp only at hrow had hx hy hz
  obtain ⟨w0, w1, w2, w3, w4, w5, w6, w7, w8, w9, w10, w11, w12, w13, w14⟩ := hrow
  have hix : mi_ix (b.P 0 p 0) 800 Z.S.at := by
    rw [hat]
    exact ix_of (by omega) (by omega)
  have hix2 := ix_of (w := Z.S.at) (m := 800) (by omega) (by omega)
  have h0 : (b.sX 46 0).I 509 Z.S.at = 4 := w0
  rw [mv_s1_4] at KK
  have E := g_E (sl := sl) (f0 := f0) hn (h.rk hS) 100 (by omega)
  have h4 : (gvL b false).J 517 Z.S.at = v := w4 (by decide)
  have h44 : (gvL b false).J 505 44 = lo := hlo
  have h45 : (gvL b false).J 505 45 = hi := hhi
  have h8 : (gvL b false).I 516 Z.S.at = Int32.ofNat y := w8 (by decide)
  have hy8 : y ≤ 800 := by have := (mz_un (k := 98) (hy (by decide)).2).1; omega
  refine b_175_0 (t33 := 416) _ _ _ _ _ _ (by first | (exact hd_9) | assumption) (by omega) (by exact (mL_get (by decide)).trans (congrArg some (by assumption))) (by first | (exact hd_8 (by assumption)) | assumption) (by omega) (by exact rfl) (by first | (exact hd_9) | assumption) (by omega) (by rw [mL_len]; decide) (by first | assumption | (exact mL_get (by decide)) | (rw [mL_len]; decide) | (simp only [mL_set]; exact mL_get (by decide)) | (simp only [mL_set, mL_len]; decide) | (exact va_eq) | (exact (va_ne (by omega)).trans (by assumption)) | (exact (va_ne (by omega)).trans va_eq) | (exact (va_ne (by omega)).trans ((va_ne (by omega)).trans (by assumption))) | (exact (va_ne (by omega)).trans ((va_ne (by omega)).trans ((va_ne (by omega)).trans (by assumption)))) | rfl | (exact Or.inl rfl) | (exact Or.inr rfl) | omega | (exact Nat.le_of_ble_eq_true rfl) | decide | (exact ⟨by decide, rfl, by decide⟩)) (by first | (exact (congrFun (gw_X (by decide)) _).trans (hd_9)) | assumption) (by omega) (by exact mL_get (by decide)) (by first | (exact (congrFun (gw_X (by decide)) _).trans (hd_I (by omega) rfl)) | assumption) (Or.inl (by omega)) (by first | assumption | (exact ix_of (by omega) (by omega)) | (exact ⟨by decide, rfl, by decide⟩)) (by rw [h0]; decide +kernel) ?_
  refine hw_W (gw_X (by decide)) ?_
  rw [hat, show b.sX 46 0 = gvL b false from rfl]
  refine b_175_416 _ _ _ _ _ _ (by first | (exact hd_9) | assumption) (by omega) (by exact mL_get (by decide)) (by first | (exact hd_9) | assumption) (by omega) (by exact mL_get (by decide)) (by first | (exact hd_J (by omega) rfl) | (exact hd_L1 (by assumption)) | (exact hd_L2 (by assumption)) | (exact hd_L3 (by assumption)) | assumption) (by omega) (by first | assumption | (exact ix_of (by omega) (by omega)) | (exact ⟨by decide, rfl, by decide⟩)) ?_ ?_
  · intro z416
    rw [h45, h4] at z416
    rw [if_neg (lg_ge.mp z416)] at KK
    refine b_175_432 _ _ _ _ _ _ (by first | (exact hd_9) | assumption) (by omega) (by exact mL_get (by decide)) (by first | (exact hd_J (by omega) rfl) | (exact hd_L1 (by assumption)) | (exact hd_L2 (by assumption)) | (exact hd_L3 (by assumption)) | assumption) (by omega) (by first | assumption | (exact ix_of (by omega) (by omega)) | (exact ⟨by decide, rfl, by decide⟩)) (by first | (exact hd_9) | assumption) (by omega) (by exact mL_get (by decide)) ?_ ?_
    · intro z432
      rw [h44, h4] at z432
      rw [if_neg (Int64.not_lt.mpr (lg_le.mp z432))] at KK
      refine b_175_448 _ _ _ _ _ _ (by first | (exact hd_9) | assumption) (by omega) (by exact (mL_get (by decide)).trans (congrArg some (by assumption))) (by first | (exact hd_9) | assumption) (by omega) (by exact mL_get (by decide)) (by first | (exact hd_I (by omega) rfl) | assumption) (Or.inl (by omega)) (by first | assumption | (exact ix_of (by omega) (by omega)) | (exact ⟨by decide, rfl, by decide⟩)) (by first | (exact hd_8 (by assumption)) | assumption) (by omega) (Nat.le_of_ble_eq_true rfl) ?_
      refine hw_W (gw_at (by assumption)) ?_
      rw [h8]
      exact g_598 hn (fun o2' => KK.2.1 _ rfl _ _ _ _ _ _ _ _ (gMf.re.vL.sP.sX (k := 58) (Or.inr (Or.inr (Or.inr rfl)))) (h.vL.go hy8).x58 rfl)
    · intro z432
      rw [h44, h4] at z432
      rw [if_pos (Int64.not_le.mp (fun h => z432 (lg_le.mpr h)))] at KK
      refine b_175_446 _ _ _ ?_
      exact KK.2.2 3 rfl _ gMf.re.vL
  · intro z416
    rw [h45, h4] at z416
    rw [if_pos (Classical.not_not.mp (fun h => z416 (lg_ge.mpr h)))] at KK
    refine b_175_430 _ _ _ ?_
    exact KK.1 rfl _ gMf.re.vL h.vL rfl
theorem g_s5 (hn : 575 ≤ n) (h : gM n b p N tb lo hi wal Z) (hS : mv_ok Z.S) (hw1 : Z.ws.1 < 148) (hp1 : Z.ps.1 < 148) (hok : mz_ok tb N 100 0 Z.S.at) (hcm : tb Z.S.at = (5, A, B, D, v, x, y, z, u)) (KK : gKs n sl f0 Q (e + 103) b p N tb lo hi wal Z (mv_s1 (mv_E tb Z.S lo hi 100) lo hi Z (5, A, B, D, v, x, y, z, u))) : mi_W (e + 103) 175 0 [some (.ref 505), o2, o3, o4, o5, o6, o7, o8] [] (n, sl, hd b f0) Q := by
  obtain ⟨⟨hps, hpn⟩, ⟨hlo, hhi, hwal⟩, ⟨hN8, hrg, hto⟩, hSt, hev, hlf⟩ := id h
  have hpo := hSt.1
  have hm : Z.S.at < N := mz_u1 hok
  have hat : b.P 0 p 0 = Int32.ofNat Z.S.at := hSt.2.1.1
  obtain ⟨-, hso, had, hx, hls, hy, hz⟩ := mz_un (k := 99) hok
  have hrow := hrg _ hm
  rw [hcm] at hrow had hx hy hz
  unfold gRow at hrow
  unfold mz_ad at had
  dsimp only at hrow had hx hy hz
  obtain ⟨w0, w1, w2, w3, w4, w5, w6, w7, w8, w9, w10, w11, w12, w13, w14⟩ := hrow
  have hix : mi_ix (b.P 0 p 0) 800 Z.S.at := by
    rw [hat]
    exact ix_of (by omega) (by omega)
  have hix2 := ix_of (w := Z.S.at) (m := 800) (by omega) (by omega)
  have h0 : (b.sX 46 0).I 509 Z.S.at = 5 := w0
  rw [mv_s1_5] at KK
  have E := g_E (sl := sl) (f0 := f0) hn (h.rk hS) 100 (by omega)
  have h5 : ∀ l, (gvL b l).I 513 Z.S.at = Int32.ofNat x := fun _ => w5 (by decide)
  have h1 : ∀ l, (gvL b l).I 510 Z.S.at = Int32.ofNat A := fun _ => w1 (by decide)
  have h8 : ∀ l, (gvL b l).I 516 Z.S.at = Int32.ofNat y := fun _ => w8 (by decide)
  have hA : A < 8 := had.1 (by decide)
  have hxk : mz_ok tb N 100 1 x := mz_dn (hx (by decide)).2
  have hy8 : y ≤ 800 := by have := (mz_un (k := 98) (hy (by decide)).2).1; omega
  have hi4 : ∀ l, mi_ix ((gvL b l).I 510 Z.S.at) 8 A := fun l => by
    rw [h1]
    exact ix_of (by omega) (by omega)
  have hi4f := hi4 false
  cases hv : (mv_E tb Z.S lo hi 100).1 x with
  | none =>
    rw [hv] at KK
    refine b_175_0 (t33 := 464) _ _ _ _ _ _ (by first | (exact hd_9) | assumption) (by omega) (by exact (mL_get (by decide)).trans (congrArg some (by assumption))) (by first | (exact hd_8 (by assumption)) | assumption) (by omega) (by exact rfl) (by first | (exact hd_9) | assumption) (by omega) (by rw [mL_len]; decide) (by first | assumption | (exact mL_get (by decide)) | (rw [mL_len]; decide) | (simp only [mL_set]; exact mL_get (by decide)) | (simp only [mL_set, mL_len]; decide) | (exact va_eq) | (exact (va_ne (by omega)).trans (by assumption)) | (exact (va_ne (by omega)).trans va_eq) | (exact (va_ne (by omega)).trans ((va_ne (by omega)).trans (by assumption))) | (exact (va_ne (by omega)).trans ((va_ne (by omega)).trans ((va_ne (by omega)).trans (by assumption)))) | rfl | (exact Or.inl rfl) | (exact Or.inr rfl) | omega | (exact Nat.le_of_ble_eq_true rfl) | decide | (exact ⟨by decide, rfl, by decide⟩)) (by first | (exact (congrFun (gw_X (by decide)) _).trans (hd_9)) | assumption) (by omega) (by exact mL_get (by decide)) (by first | (exact (congrFun (gw_X (by decide)) _).trans (hd_I (by omega) rfl)) | assumption) (Or.inl (by omega)) (by first | assumption | (exact ix_of (by omega) (by omega)) | (exact ⟨by decide, rfl, by decide⟩)) (by rw [h0]; decide +kernel) ?_
    refine hw_W (gw_X (by decide)) ?_
    rw [hat, show b.sX 46 0 = gvL b false from rfl]
    refine b_175_464 _ _ _ _ _ _ (by first | (exact hd_9) | assumption) (by omega) (by exact mL_get (by decide)) (by first | (exact hd_I (by omega) rfl) | assumption) (Or.inl (by omega)) (by first | assumption | (exact ix_of (by omega) (by omega)) | (exact ⟨by decide, rfl, by decide⟩)) (by first | (exact hd_9) | assumption) (by omega) ?_
    rw [h5]
    refine E.1 x _ false _ (by omega) hxk (fun r l c => ?_)
    rw [hv] at c
    have hl : l = true := c
    subst hl
    refine b_175_474 _ _ _ (by first | (exact hd_9) | assumption) (by omega) (by exact mL_get (by decide)) ?_ ?_
    · intro z474
      exact absurd z474 gvL_46t
    · intro z474
      refine b_175_482 _ _ _ ?_
      exact KK.2.2 6 rfl _ gMf.re.vL
  | some w =>
    rw [hv] at KK
    have hus := hSt.2.2.2.2.2 A hA
    unfold mv_let at KK
    dsimp only at KK
    refine b_175_0 (t33 := 464) _ _ _ _ _ _ (by first | (exact hd_9) | assumption) (by omega) (by exact (mL_get (by decide)).trans (congrArg some (by assumption))) (by first | (exact hd_8 (by assumption)) | assumption) (by omega) (by exact rfl) (by first | (exact hd_9) | assumption) (by omega) (by rw [mL_len]; decide) (by first | assumption | (exact mL_get (by decide)) | (rw [mL_len]; decide) | (simp only [mL_set]; exact mL_get (by decide)) | (simp only [mL_set, mL_len]; decide) | (exact va_eq) | (exact (va_ne (by omega)).trans (by assumption)) | (exact (va_ne (by omega)).trans va_eq) | (exact (va_ne (by omega)).trans ((va_ne (by omega)).trans (by assumption))) | (exact (va_ne (by omega)).trans ((va_ne (by omega)).trans ((va_ne (by omega)).trans (by assumption)))) | rfl | (exact Or.inl rfl) | (exact Or.inr rfl) | omega | (exact Nat.le_of_ble_eq_true rfl) | decide | (exact ⟨by decide, rfl, by decide⟩)) (by first | (exact (congrFun (gw_X (by decide)) _).trans (hd_9)) | assumption) (by omega) (by exact mL_get (by decide)) (by first | (exact (congrFun (gw_X (by decide)) _).trans (hd_I (by omega) rfl)) | assumption) (Or.inl (by omega)) (by first | assumption | (exact ix_of (by omega) (by omega)) | (exact ⟨by decide, rfl, by decide⟩)) (by rw [h0]; decide +kernel) ?_
    refine hw_W (gw_X (by decide)) ?_
    rw [hat, show b.sX 46 0 = gvL b false from rfl]
    refine b_175_464 _ _ _ _ _ _ (by first | (exact hd_9) | assumption) (by omega) (by exact mL_get (by decide)) (by first | (exact hd_I (by omega) rfl) | assumption) (Or.inl (by omega)) (by first | assumption | (exact ix_of (by omega) (by omega)) | (exact ⟨by decide, rfl, by decide⟩)) (by first | (exact hd_9) | assumption) (by omega) ?_
    rw [h5]
    refine E.1 x _ false _ (by omega) hxk (fun r l c => ?_)
    rw [hv] at c
    have hl : l = false ∧ r = w := c
    obtain ⟨rfl, rfl⟩ := hl
    refine b_175_474 _ _ _ (by first | (exact hd_9) | assumption) (by omega) (by exact mL_get (by decide)) ?_ ?_
    · intro z474
      refine b_175_485 _ _ _ _ _ _ _ _ _ (by first | (exact hd_9) | assumption) (by omega) (by exact (mL_get (by decide)).trans (congrArg some (by assumption))) (by first | (exact hd_8 (by assumption)) | assumption) (by omega) (by exact rfl) (by first | (exact hd_9) | assumption) (by omega) (by exact mL_get (by decide)) (by first | (exact hd_I (by omega) rfl) | assumption) (Or.inl (by omega)) (by first | assumption | (exact ix_of (by omega) (by omega)) | (exact ⟨by decide, rfl, by decide⟩)) (by first | (exact hd_P4 (by assumption)) | (exact hd_P5 (by assumption)) | assumption) (by omega) (by first | assumption | (exact ix_of (by omega) (by omega)) | (exact ⟨by decide, rfl, by decide⟩)) ?_ ?_
      · intro z485
        rw [hus.2, if_pos (show b.P 5 p A = 0 from z485)] at KK
        first | exact g_508 hn h.vL (by omega) hA hy8 (h1 false) (h8 false) (fun b2 o2' f2 k2 e2 => KK.2.1 _ rfl _ _ _ _ _ _ _ _ (gMf.re.vL.trans f2) k2 e2) | exact g_508 hn k1 (by omega) hA hy8 ((congrFun (f1.2.1 510 (by decide)) _).trans (h1 false)) ((congrFun (f1.2.1 516 (by decide)) _).trans (h8 false)) (fun b2 o2' f2 k2 e2 => KK.2.1 _ rfl _ _ _ _ _ _ _ _ ((gMf.re.vL.trans f1).trans f2) k2 e2)
      · intro z485
        rw [hus.2, if_neg (show ¬ b.P 5 p A = 0 from z485)] at KK
        refine b_175_502 _ _ _ (by first | (exact hd_9) | assumption) (by omega) ?_
        refine g_warn (x := 4) hn h.vL hw1 (fun b1 f1 k1 _ => ?_)
        first | exact g_508 hn h.vL (by omega) hA hy8 (h1 false) (h8 false) (fun b2 o2' f2 k2 e2 => KK.2.1 _ rfl _ _ _ _ _ _ _ _ (gMf.re.vL.trans f2) k2 e2) | exact g_508 hn k1 (by omega) hA hy8 ((congrFun (f1.2.1 510 (by decide)) _).trans (h1 false)) ((congrFun (f1.2.1 516 (by decide)) _).trans (h8 false)) (fun b2 o2' f2 k2 e2 => KK.2.1 _ rfl _ _ _ _ _ _ _ _ ((gMf.re.vL.trans f1).trans f2) k2 e2)
    · intro z474
      exact absurd rfl z474
theorem g_s6 (hn : 575 ≤ n) (h : gM n b p N tb lo hi wal Z) (hS : mv_ok Z.S) (hw1 : Z.ws.1 < 148) (hp1 : Z.ps.1 < 148) (hok : mz_ok tb N 100 0 Z.S.at) (hcm : tb Z.S.at = (6, A, B, D, v, x, y, z, u)) (KK : gKs n sl f0 Q (e + 103) b p N tb lo hi wal Z (mv_s1 (mv_E tb Z.S lo hi 100) lo hi Z (6, A, B, D, v, x, y, z, u))) : mi_W (e + 103) 175 0 [some (.ref 505), o2, o3, o4, o5, o6, o7, o8] [] (n, sl, hd b f0) Q := by
  obtain ⟨⟨hps, hpn⟩, ⟨hlo, hhi, hwal⟩, ⟨hN8, hrg, hto⟩, hSt, hev, hlf⟩ := id h
  have hpo := hSt.1
  have hm : Z.S.at < N := mz_u1 hok
  have hat : b.P 0 p 0 = Int32.ofNat Z.S.at := hSt.2.1.1
  obtain ⟨-, hso, had, hx, hls, hy, hz⟩ := mz_un (k := 99) hok
  have hrow := hrg _ hm
  rw [hcm] at hrow had hx hy hz
  unfold gRow at hrow
  unfold mz_ad at had
  dsimp only at hrow had hx hy hz
  obtain ⟨w0, w1, w2, w3, w4, w5, w6, w7, w8, w9, w10, w11, w12, w13, w14⟩ := hrow
  have hix : mi_ix (b.P 0 p 0) 800 Z.S.at := by
    rw [hat]
    exact ix_of (by omega) (by omega)
  have hix2 := ix_of (w := Z.S.at) (m := 800) (by omega) (by omega)
  have h0 : (b.sX 46 0).I 509 Z.S.at = 6 := w0
  rw [mv_s1_6] at KK
  have E := g_E (sl := sl) (f0 := f0) hn (h.rk hS) 100 (by omega)
  have h5 : ∀ l, (gvL b l).I 513 Z.S.at = Int32.ofNat x := fun _ => w5 (by decide)
  have h8 : ∀ l, (gvL b l).I 516 Z.S.at = Int32.ofNat y := fun _ => w8 (by decide)
  have hxk : mz_ok tb N 100 2 x := mz_dn (hx (by decide)).2
  have hy8 : y ≤ 800 := by have := (mz_un (k := 98) (hy (by decide)).2).1; omega
  cases hv : (mv_E tb Z.S lo hi 100).2 x with
  | none =>
    rw [hv] at KK
    refine b_175_0 (t33 := 554) _ _ _ _ _ _ (by first | (exact hd_9) | assumption) (by omega) (by exact (mL_get (by decide)).trans (congrArg some (by assumption))) (by first | (exact hd_8 (by assumption)) | assumption) (by omega) (by exact rfl) (by first | (exact hd_9) | assumption) (by omega) (by rw [mL_len]; decide) (by first | assumption | (exact mL_get (by decide)) | (rw [mL_len]; decide) | (simp only [mL_set]; exact mL_get (by decide)) | (simp only [mL_set, mL_len]; decide) | (exact va_eq) | (exact (va_ne (by omega)).trans (by assumption)) | (exact (va_ne (by omega)).trans va_eq) | (exact (va_ne (by omega)).trans ((va_ne (by omega)).trans (by assumption))) | (exact (va_ne (by omega)).trans ((va_ne (by omega)).trans ((va_ne (by omega)).trans (by assumption)))) | rfl | (exact Or.inl rfl) | (exact Or.inr rfl) | omega | (exact Nat.le_of_ble_eq_true rfl) | decide | (exact ⟨by decide, rfl, by decide⟩)) (by first | (exact (congrFun (gw_X (by decide)) _).trans (hd_9)) | assumption) (by omega) (by exact mL_get (by decide)) (by first | (exact (congrFun (gw_X (by decide)) _).trans (hd_I (by omega) rfl)) | assumption) (Or.inl (by omega)) (by first | assumption | (exact ix_of (by omega) (by omega)) | (exact ⟨by decide, rfl, by decide⟩)) (by rw [h0]; decide +kernel) ?_
    refine hw_W (gw_X (by decide)) ?_
    rw [hat, show b.sX 46 0 = gvL b false from rfl]
    refine b_175_554 _ _ _ _ _ _ (by first | (exact hd_9) | assumption) (by omega) (by exact mL_get (by decide)) (by first | (exact hd_I (by omega) rfl) | assumption) (Or.inl (by omega)) (by first | assumption | (exact ix_of (by omega) (by omega)) | (exact ⟨by decide, rfl, by decide⟩)) (by first | (exact hd_9) | assumption) (by omega) ?_
    rw [h5]
    refine E.2 x _ false _ (by omega) hxk (fun r l hb c => ?_)
    rw [hv] at c
    have hl : l = true := c
    subst hl
    refine b_175_564 _ _ _ (by first | (exact hd_9) | assumption) (by omega) (by exact mL_get (by decide)) ?_ ?_
    · intro z564
      exact absurd z564 gvL_46t
    · intro z564
      refine b_175_572 _ _ _ ?_
      exact KK.2.2 6 rfl _ gMf.re.vL
  | some bb =>
    rw [hv] at KK
    unfold mv_ass at KK
    dsimp only at KK
    refine b_175_0 (t33 := 554) _ _ _ _ _ _ (by first | (exact hd_9) | assumption) (by omega) (by exact (mL_get (by decide)).trans (congrArg some (by assumption))) (by first | (exact hd_8 (by assumption)) | assumption) (by omega) (by exact rfl) (by first | (exact hd_9) | assumption) (by omega) (by rw [mL_len]; decide) (by first | assumption | (exact mL_get (by decide)) | (rw [mL_len]; decide) | (simp only [mL_set]; exact mL_get (by decide)) | (simp only [mL_set, mL_len]; decide) | (exact va_eq) | (exact (va_ne (by omega)).trans (by assumption)) | (exact (va_ne (by omega)).trans va_eq) | (exact (va_ne (by omega)).trans ((va_ne (by omega)).trans (by assumption))) | (exact (va_ne (by omega)).trans ((va_ne (by omega)).trans ((va_ne (by omega)).trans (by assumption)))) | rfl | (exact Or.inl rfl) | (exact Or.inr rfl) | omega | (exact Nat.le_of_ble_eq_true rfl) | decide | (exact ⟨by decide, rfl, by decide⟩)) (by first | (exact (congrFun (gw_X (by decide)) _).trans (hd_9)) | assumption) (by omega) (by exact mL_get (by decide)) (by first | (exact (congrFun (gw_X (by decide)) _).trans (hd_I (by omega) rfl)) | assumption) (Or.inl (by omega)) (by first | assumption | (exact ix_of (by omega) (by omega)) | (exact ⟨by decide, rfl, by decide⟩)) (by rw [h0]; decide +kernel) ?_
    refine hw_W (gw_X (by decide)) ?_
    rw [hat, show b.sX 46 0 = gvL b false from rfl]
    refine b_175_554 _ _ _ _ _ _ (by first | (exact hd_9) | assumption) (by omega) (by exact mL_get (by decide)) (by first | (exact hd_I (by omega) rfl) | assumption) (Or.inl (by omega)) (by first | assumption | (exact ix_of (by omega) (by omega)) | (exact ⟨by decide, rfl, by decide⟩)) (by first | (exact hd_9) | assumption) (by omega) ?_
    rw [h5]
    refine E.2 x _ false _ (by omega) hxk (fun r l hb c => ?_)
    rw [hv] at c
    have hl : l = false ∧ r = cvt bb := c
    obtain ⟨rfl, rfl⟩ := hl
    refine b_175_564 _ _ _ (by first | (exact hd_9) | assumption) (by omega) (by exact mL_get (by decide)) ?_ ?_
    · intro z564
      refine b_175_575 _ _ _ ?_ ?_
      · intro z575
        have hbb : bb = true := by cases bb with | true => rfl | false => exact absurd rfl z575
        subst hbb
        first | exact g_585 hn h.vL (by omega) hy8 (h8 false) (fun b2 o2' f2 k2 e2 => KK.2.1 _ rfl _ _ _ _ _ _ _ _ (gMf.re.vL.trans f2) k2 e2) | exact g_585 hn k1 (by omega) hy8 ((congrFun (f1.2.1 516 (by decide)) _).trans (h8 false)) (fun b2 o2' f2 k2 e2 => KK.2.1 _ rfl _ _ _ _ _ _ _ _ ((gMf.re.vL.trans f1).trans f2) k2 e2)
      · intro z575
        have hbb : bb = false := by cases bb with | false => rfl | true => exact absurd (Classical.not_not.mp z575) (by decide)
        subst hbb
        refine b_175_579 _ _ _ (by first | (exact hd_9) | assumption) (by omega) ?_
        refine g_warn (x := 5) hn h.vL hw1 (fun b1 f1 k1 _ => ?_)
        first | exact g_585 hn h.vL (by omega) hy8 (h8 false) (fun b2 o2' f2 k2 e2 => KK.2.1 _ rfl _ _ _ _ _ _ _ _ (gMf.re.vL.trans f2) k2 e2) | exact g_585 hn k1 (by omega) hy8 ((congrFun (f1.2.1 516 (by decide)) _).trans (h8 false)) (fun b2 o2' f2 k2 e2 => KK.2.1 _ rfl _ _ _ _ _ _ _ _ ((gMf.re.vL.trans f1).trans f2) k2 e2)
    · intro z564
      exact absurd rfl z564
end
