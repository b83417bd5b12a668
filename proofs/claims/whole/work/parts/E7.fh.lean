/-! the second object: pay -/
section
variable {d e n sl N : Nat} {b b0 b1 b2 : mg_A} {f0 : Nat → mi_C} {Q : (Option Value ⊕ Nat) → mi_H → Prop} {p q i j c k r m A B D x y z : Nat} {u : Nat × Nat} {tb : Nat → ms_N} {lo hi v w s : Int64} {Z : mv_Z} {wal : Bool} {o2 o3 o4 o5 o6 o7 o8 : Option Value}
theorem g_ix4 {a d : Int32} (ha : a = Int32.ofNat A) (hd' : d = Int32.ofNat D) : 4 * a + d = Int32.ofNat (A * 4 + D) := by
  rw [ha, hd', show (4 : Int32) = Int32.ofNat 4 from rfl, of_mul, of_add', Nat.mul_comm]
theorem g_224_1 (hn : 575 ≤ n) (h : gM n b p N tb lo hi wal Z) (hp1 : Z.ps.1 < 148) (hm : m < 800) (hA : A < 8) (hB : B < 8) (hD : D < 4) (hy8 : y ≤ 800) (w0 : b.I 509 m = 1) (w1 : b.I 510 m = Int32.ofNat A) (w2 : b.I 511 m = Int32.ofNat B) (w3 : b.I 512 m = Int32.ofNat D) (w8 : b.I 516 m = Int32.ofNat y) (hs0 : 0 ≤ s.toInt) (K : ∀ b' o2 o3 o4 o5 o6 o7 o8, gMf p b b' → gM n b' p N tb lo hi wal ((if s = 0 then Z.ac (A * 4 + D) (Z.S.ac (A * 4 + D) - s) else (Z.ac (A * 4 + D) (Z.S.ac (A * 4 + D) - s)).py A B D s).go y) → b'.I 505 58 = 1 → mi_W (d + 1) 175 0 [some (.ref 505), o2, o3, o4, o5, o6, o7, o8] [] (n, sl, hd b' f0) Q) : mi_W (d + 1) 175 224 [some (.ref 505), some (.int (Int32.ofNat m)), some (.long v), none, some (.int (Int32.ofNat (A * 4 + D))), some (.long s), none, o7] [] (n, sl, hd b f0) Q := by
  obtain ⟨⟨hps, hpn⟩, -, -, hSt, -⟩ := id h
  have hpo := hSt.1
  have hac := hSt.2.2.2.1
  have hix := ix_of (w := m) (m := 800) (by omega) (by omega)
  have hix4 := ix_of (w := A * 4 + D) (m := 32) (by omega) (by omega)
  have k1 := h.ac (j := A * 4 + D) (v := Z.S.ac (A * 4 + D) - s)
  refine b_175_224 _ _ _ _ _ _ _ _ _ _ _ _ (by first | (exact hd_9) | assumption) (by omega) (by exact (mL_get (by decide)).trans (congrArg some (by assumption))) (by first | (exact hd_8 (by assumption)) | assumption) (by omega) (by exact rfl) (by first | (exact hd_J (by omega) rfl) | (exact hd_L1 (by assumption)) | (exact hd_L2 (by assumption)) | (exact hd_L3 (by assumption)) | assumption) (by omega) (by first | assumption | (exact ix_of (by omega) (by omega)) | (exact ⟨by decide, rfl, by decide⟩)) (by first | (exact hd_J (by omega) rfl) | (exact hd_L1 (by assumption)) | (exact hd_L2 (by assumption)) | (exact hd_L3 (by assumption)) | assumption) (by omega) (by first | assumption | (exact ix_of (by omega) (by omega)) | (exact ⟨by decide, rfl, by decide⟩)) (by first | (exact (congrFun ((by first | exact gw_J (by omega) rfl | exact gw_L1 (by assumption) | exact gw_L2 (by assumption) | exact gw_L3 (by assumption))) _).trans (hd_9)) | assumption) (by omega) (by exact mL_get (by decide)) (by first | (exact (congrFun ((by first | exact gw_J (by omega) rfl | exact gw_L1 (by assumption) | exact gw_L2 (by assumption) | exact gw_L3 (by assumption))) _).trans (hd_I (by omega) rfl)) | assumption) (Or.inl (by omega)) (by first | assumption | (exact ix_of (by omega) (by omega)) | (exact ⟨by decide, rfl, by decide⟩)) ?_ ?_
  · intro z224
    exact absurd w0 z224
  · intro z224
    refine hw_W ((by first | exact gw_J (by omega) rfl | exact gw_L1 (by assumption) | exact gw_L2 (by assumption) | exact gw_L3 (by assumption))) ?_
    rw [hac _ (by omega)]
    refine b_175_249 _ _ _ ?_ ?_
    · intro z249
      have he : s = 0 := Int64.toInt_inj.mp (by have := Int64.le_iff_toInt_le.mp (lg_le.mp z249); have h0 : (0 : Int64).toInt = 0 := rfl; omega)
      rw [if_pos he] at K
      first | exact g_350 hn k1 hm hy8 w8 (fun b' o2 f' k' e' => K b' _ _ _ _ _ _ _ (gMf.re.sL.trans f') k' e') | exact g_350 hn k2 hm hy8 ((congrFun (f1.2.1 516 (by decide)) _).trans w8) (fun b' o2 f' k' e' => K b' _ _ _ _ _ _ _ ((gMf.re.sL.trans f1).trans f') k' e')
    · intro z249
      have he : ¬ s = 0 := fun e => z249 (lg_le.mpr (by rw [e]; exact Int64.le_refl _))
      rw [if_neg he] at K
      refine b_175_256 _ _ _ _ _ _ _ _ _ _ _ _ (by first | (exact hd_9) | assumption) (by omega) (by exact mL_get (by decide)) (by first | (exact hd_I (by omega) rfl) | assumption) (Or.inl (by omega)) (by first | assumption | (exact ix_of (by omega) (by omega)) | (exact ⟨by decide, rfl, by decide⟩)) (by first | (exact hd_9) | assumption) (by omega) (by exact mL_get (by decide)) (by first | (exact hd_I (by omega) rfl) | assumption) (Or.inl (by omega)) (by first | assumption | (exact ix_of (by omega) (by omega)) | (exact ⟨by decide, rfl, by decide⟩)) (by first | (exact hd_9) | assumption) (by omega) (by exact mL_get (by decide)) (by first | (exact hd_I (by omega) rfl) | assumption) (Or.inl (by omega)) (by first | assumption | (exact ix_of (by omega) (by omega)) | (exact ⟨by decide, rfl, by decide⟩)) (by first | (exact hd_9) | assumption) (by omega) ?_
      rw [show (b.sL 1 p (vp_updL (b.L 1 p) (A * 4 + D) (Z.S.ac (A * 4 + D) - s))).I 510 m = Int32.ofNat A from w1, show (b.sL 1 p (vp_updL (b.L 1 p) (A * 4 + D) (Z.S.ac (A * 4 + D) - s))).I 511 m = Int32.ofNat B from w2, show (b.sL 1 p (vp_updL (b.L 1 p) (A * 4 + D) (Z.S.ac (A * 4 + D) - s))).I 512 m = Int32.ofNat D from w3]
      refine g_pay hn k1 hp1 (fun b1 f1 k2 _ => ?_)
      refine b_175_280 _ _ _ ?_
      first | exact g_350 hn k1 hm hy8 w8 (fun b' o2 f' k' e' => K b' _ _ _ _ _ _ _ (gMf.re.sL.trans f') k' e') | exact g_350 hn k2 hm hy8 ((congrFun (f1.2.1 516 (by decide)) _).trans w8) (fun b' o2 f' k' e' => K b' _ _ _ _ _ _ _ ((gMf.re.sL.trans f1).trans f') k' e')
theorem g_224_2 (hn : 575 ≤ n) (h : gM n b p N tb lo hi wal Z) (hm : m < 800) (hA : A < 8) (hB : B < 8) (hD : D < 4) (hy8 : y ≤ 800) (w0 : b.I 509 m = 2) (w2 : b.I 511 m = Int32.ofNat B) (w3 : b.I 512 m = Int32.ofNat D) (w8 : b.I 516 m = Int32.ofNat y) (K : ∀ Z1, Z1 = Z.ac (A * 4 + D) (Z.S.ac (A * 4 + D) - s) → mv_lm (Z1.S.ac (B * 4 + D) + s) = true → ∀ b' o2 o3 o4 o5 o6 o7 o8, gMf p b b' → gM n b' p N tb lo hi wal ((Z1.ac (B * 4 + D) (Z1.S.ac (B * 4 + D) + s)).go y) → b'.I 505 58 = 1 → mi_W d 175 0 [some (.ref 505), o2, o3, o4, o5, o6, o7, o8] [] (n, sl, hd b' f0) Q) (Ke : ∀ Z1, Z1 = Z.ac (A * 4 + D) (Z.S.ac (A * 4 + D) - s) → ¬ mv_lm (Z1.S.ac (B * 4 + D) + s) = true → ∀ b', gMf p b b' → Q (.inl (some (.int 6))) (n, sl, hd b' f0)) : mi_W d 175 224 [some (.ref 505), some (.int (Int32.ofNat m)), some (.long v), none, some (.int (Int32.ofNat (A * 4 + D))), some (.long s), none, o7] [] (n, sl, hd b f0) Q := by
  obtain ⟨⟨hps, hpn⟩, -, -, hSt, -⟩ := id h
  have hpo := hSt.1
  have hac := hSt.2.2.2.1
  have hix := ix_of (w := m) (m := 800) (by omega) (by omega)
  have hix4 := ix_of (w := A * 4 + D) (m := 32) (by omega) (by omega)
  have hix5 : mi_ix (4 * b.I 511 m + b.I 512 m) 32 (B * 4 + D) := by
    rw [g_ix4 w2 w3]
    exact ix_of (by omega) (by omega)
  have k1 := h.ac (j := A * 4 + D) (v := Z.S.ac (A * 4 + D) - s)
  have hac1 := k1.2.2.2.1.2.2.2.1
  generalize hZ1 : Z.ac (A * 4 + D) (Z.S.ac (A * 4 + D) - s) = Z1 at *
  have k2 := k1.ac (j := B * 4 + D) (v := Z1.S.ac (B * 4 + D) + s)
  have K' := K Z1 rfl
  have Ke' := Ke Z1 rfl
  refine b_175_224 _ _ _ _ _ _ _ _ _ _ _ _ (by first | (exact hd_9) | assumption) (by omega) (by exact (mL_get (by decide)).trans (congrArg some (by assumption))) (by first | (exact hd_8 (by assumption)) | assumption) (by omega) (by exact rfl) (by first | (exact hd_J (by omega) rfl) | (exact hd_L1 (by assumption)) | (exact hd_L2 (by assumption)) | (exact hd_L3 (by assumption)) | assumption) (by omega) (by first | assumption | (exact ix_of (by omega) (by omega)) | (exact ⟨by decide, rfl, by decide⟩)) (by first | (exact hd_J (by omega) rfl) | (exact hd_L1 (by assumption)) | (exact hd_L2 (by assumption)) | (exact hd_L3 (by assumption)) | assumption) (by omega) (by first | assumption | (exact ix_of (by omega) (by omega)) | (exact ⟨by decide, rfl, by decide⟩)) (by first | (exact (congrFun ((by first | exact gw_J (by omega) rfl | exact gw_L1 (by assumption) | exact gw_L2 (by assumption) | exact gw_L3 (by assumption))) _).trans (hd_9)) | assumption) (by omega) (by exact mL_get (by decide)) (by first | (exact (congrFun ((by first | exact gw_J (by omega) rfl | exact gw_L1 (by assumption) | exact gw_L2 (by assumption) | exact gw_L3 (by assumption))) _).trans (hd_I (by omega) rfl)) | assumption) (Or.inl (by omega)) (by first | assumption | (exact ix_of (by omega) (by omega)) | (exact ⟨by decide, rfl, by decide⟩)) ?_ ?_
  · intro z224
    refine hw_W ((by first | exact gw_J (by omega) rfl | exact gw_L1 (by assumption) | exact gw_L2 (by assumption) | exact gw_L3 (by assumption))) ?_
    rw [hac _ (by omega)]
    refine b_175_283 _ _ _ _ _ _ _ _ _ _ _ _ _ _ _ _ _ _ (by first | (exact hd_9) | assumption) (by omega) (by exact mL_get (by decide)) (by first | (exact hd_I (by omega) rfl) | assumption) (Or.inl (by omega)) (by first | assumption | (exact ix_of (by omega) (by omega)) | (exact ⟨by decide, rfl, by decide⟩)) (by first | (exact hd_9) | assumption) (by omega) (by exact mL_get (by decide)) (by first | (exact hd_I (by omega) rfl) | assumption) (Or.inl (by omega)) (by first | assumption | (exact ix_of (by omega) (by omega)) | (exact ⟨by decide, rfl, by decide⟩)) (by first | (exact hd_9) | assumption) (by omega) (by exact (mL_get (by decide)).trans (congrArg some (by assumption))) (by first | (exact hd_8 (by assumption)) | assumption) (by omega) (by exact rfl) (by first | (exact hd_J (by omega) rfl) | (exact hd_L1 (by assumption)) | (exact hd_L2 (by assumption)) | (exact hd_L3 (by assumption)) | assumption) (by omega) (by first | assumption | (exact ix_of (by omega) (by omega)) | (exact ⟨by decide, rfl, by decide⟩)) (by first | (exact hd_J (by omega) rfl) | (exact hd_L1 (by assumption)) | (exact hd_L2 (by assumption)) | (exact hd_L3 (by assumption)) | assumption) (by omega) (by first | assumption | (exact ix_of (by omega) (by omega)) | (exact ⟨by decide, rfl, by decide⟩)) (by first | (exact (congrFun ((by first | exact gw_J (by omega) rfl | exact gw_L1 (by assumption) | exact gw_L2 (by assumption) | exact gw_L3 (by assumption))) _).trans (hd_9)) | assumption) (by omega) (by exact (mL_get (by decide)).trans (congrArg some (by assumption))) (by first | (exact (congrFun ((by first | exact gw_J (by omega) rfl | exact gw_L1 (by assumption) | exact gw_L2 (by assumption) | exact gw_L3 (by assumption))) _).trans (hd_8 (by assumption))) | assumption) (by omega) (by exact rfl) (by first | (exact (congrFun ((by first | exact gw_J (by omega) rfl | exact gw_L1 (by assumption) | exact gw_L2 (by assumption) | exact gw_L3 (by assumption))) _).trans (hd_J (by omega) rfl)) | (exact (congrFun ((by first | exact gw_J (by omega) rfl | exact gw_L1 (by assumption) | exact gw_L2 (by assumption) | exact gw_L3 (by assumption))) _).trans (hd_L1 (by assumption))) | (exact (congrFun ((by first | exact gw_J (by omega) rfl | exact gw_L1 (by assumption) | exact gw_L2 (by assumption) | exact gw_L3 (by assumption))) _).trans (hd_L2 (by assumption))) | (exact (congrFun ((by first | exact gw_J (by omega) rfl | exact gw_L1 (by assumption) | exact gw_L2 (by assumption) | exact gw_L3 (by assumption))) _).trans (hd_L3 (by assumption))) | assumption) (by omega) (by first | assumption | (exact ix_of (by omega) (by omega)) | (exact ⟨by decide, rfl, by decide⟩)) ?_ ?_
    · intro z283
      refine hw_W ((by first | exact gw_J (by omega) rfl | exact gw_L1 (by assumption) | exact gw_L2 (by assumption) | exact gw_L3 (by assumption))) ?_
      rw [hac1 _ (by omega)] at z283
      rw [hac1 _ (by omega)]
      rw [L_at, upL_at] at z283
      refine b_175_347 _ _ _ ?_
      first | exact Ke' (fun h => absurd (lg_gt.mp z283) (Int64.not_lt.mpr (of_decide_eq_true h).2)) _ gMf.re.sL.sL | exact Ke' (fun h => z332 (lg_ge.mpr (Int64.not_lt.mpr (of_decide_eq_true h).1))) _ gMf.re.sL.sL
    · intro z283
      refine hw_W ((by first | exact gw_J (by omega) rfl | exact gw_L1 (by assumption) | exact gw_L2 (by assumption) | exact gw_L3 (by assumption))) ?_
      rw [hac1 _ (by omega)] at z283
      rw [hac1 _ (by omega)]
      rw [L_at, upL_at] at z283
      rw [g_ix4 (a := (b.sL 1 p (vp_updL (b.L 1 p) (A * 4 + D) (Z.S.ac (A * 4 + D) - s))).I 511 m) (d := (b.sL 1 p (vp_updL (b.L 1 p) (A * 4 + D) (Z.S.ac (A * 4 + D) - s))).I 512 m) w2 w3]
      have hix6 := ix_of (w := B * 4 + D) (m := 32) (by omega) (by omega)
      refine b_175_332 _ _ _ _ _ _ (by first | (exact hd_9) | assumption) (by omega) (by exact (mL_get (by decide)).trans (congrArg some (by assumption))) (by first | (exact hd_8 (by assumption)) | assumption) (by omega) (by exact rfl) (by first | (exact hd_J (by omega) rfl) | (exact hd_L1 (by assumption)) | (exact hd_L2 (by assumption)) | (exact hd_L3 (by assumption)) | assumption) (by omega) (by first | assumption | (exact ix_of (by omega) (by omega)) | (exact ⟨by decide, rfl, by decide⟩)) ?_ ?_
      · intro z332
        rw [L_at, upL_at] at z332
        exact g_350 hn k2 hm hy8 w8 (fun b' o2 f' k' e' => K' (decide_eq_true ⟨Int64.not_lt.mp (lg_ge.mp z332), Int64.not_lt.mp (fun h => z283 (lg_gt.mpr h))⟩) b' _ _ _ _ _ _ _ (gMf.re.sL.sL.trans f') k' e')
      · intro z332
        rw [L_at, upL_at] at z332
        refine b_175_347 _ _ _ ?_
        first | exact Ke' (fun h => absurd (lg_gt.mp z283) (Int64.not_lt.mpr (of_decide_eq_true h).2)) _ gMf.re.sL.sL | exact Ke' (fun h => z332 (lg_ge.mpr (Int64.not_lt.mpr (of_decide_eq_true h).1))) _ gMf.re.sL.sL
  · intro z224
    exact absurd (Classical.not_not.mp z224) (by rw [show (b.sL 1 p _).I 509 m = 2 from w0]; decide)
theorem g_s1 (hn : 575 ≤ n) (h : gM n b p N tb lo hi wal Z) (hS : mv_ok Z.S) (hw1 : Z.ws.1 < 148) (hp1 : Z.ps.1 < 148) (hok : mz_ok tb N 100 0 Z.S.at) (hcm : tb Z.S.at = (1, A, B, D, v, x, y, z, u)) (KK : gKs n sl f0 Q (e + 103) b p N tb lo hi wal Z (mv_s1 (mv_E tb Z.S lo hi 100) lo hi Z (1, A, B, D, v, x, y, z, u))) : mi_W (e + 103) 175 0 [some (.ref 505), o2, o3, o4, o5, o6, o7, o8] [] (n, sl, hd b f0) Q := by
  obtain ⟨⟨hps, hpn⟩, ⟨hlo, hhi, hwal⟩, ⟨hN8, hrg, hto⟩, hSt, hev, hlf⟩ := id h
  have hpo := hSt.1
  have hm : Z.S.at < N := mz_u1 hok
  have hat : b.P 0 p 0 = Int32.ofNat Z.S.at := hSt.2.1.1
  obtain ⟨-, hso, had, hx, hls, hy, hz⟩ := mz_un (k := 99) hok
  have hrow := hrg _ hm
  rw [hcm] at hrow had hx hy hz
  unfold gRow at hrow
  unfold mz_ad at had
  dsimp only at hrow had hx hy hz
  obtain ⟨w0, w1, w2, w3, w4, w5, w6, w7, w8, w9, w10, w11, w12, w13, w14⟩ := hrow
  have hix : mi_ix (b.P 0 p 0) 800 Z.S.at := by
    rw [hat]
    exact ix_of (by omega) (by omega)
  have hix2 := ix_of (w := Z.S.at) (m := 800) (by omega) (by omega)
  have h0 : (b.sX 46 0).I 509 Z.S.at = 1 := w0
  rw [mv_s1_1] at KK
  have E := g_E (sl := sl) (f0 := f0) hn (h.rk hS) 100 (by omega)
  have hac := hSt.2.2.2.1
  have h5 : ∀ l, (gvL b l).I 513 Z.S.at = Int32.ofNat x := fun _ => w5 (by decide)
  have h1 : ∀ l, (gvL b l).I 510 Z.S.at = Int32.ofNat A := fun _ => w1 (by decide)
  have h2 : ∀ l, (gvL b l).I 511 Z.S.at = Int32.ofNat B := fun _ => w2 (by decide)
  have h3 : ∀ l, (gvL b l).I 512 Z.S.at = Int32.ofNat D := fun _ => w3 (by decide)
  have h8 : ∀ l, (gvL b l).I 516 Z.S.at = Int32.ofNat y := fun _ => w8 (by decide)
  have hA : A < 8 := had.1 (by decide)
  have hB : B < 8 := had.2.1 (by decide)
  have hD : D < 4 := had.2.2 (by decide)
  have hxk : mz_ok tb N 100 1 x := mz_dn (hx (by decide)).2
  have hy8 : y ≤ 800 := by have := (mz_un (k := 98) (hy (by decide)).2).1; omega
  have e4 := g_ix4 (h1 false) (h3 false)
  have hix4 : mi_ix (4 * (gvL b false).I 510 Z.S.at + (gvL b false).I 512 Z.S.at) 32 (A * 4 + D) := by
    rw [e4]
    exact ix_of (by omega) (by omega)
  have hix5 := ix_of (w := A * 4 + D) (m := 32) (by omega) (by omega)
  have hacg : (gvL b false).L 1 p (A * 4 + D) = Z.S.ac (A * 4 + D) := hac _ (by omega)
  cases hv : (mv_E tb Z.S lo hi 100).1 x with
  | none =>
    rw [hv] at KK
    refine b_175_0 (t33 := 127) _ _ _ _ _ _ (by first | (exact hd_9) | assumption) (by omega) (by exact (mL_get (by decide)).trans (congrArg some (by assumption))) (by first | (exact hd_8 (by assumption)) | assumption) (by omega) (by exact rfl) (by first | (exact hd_9) | assumption) (by omega) (by rw [mL_len]; decide) (by first | assumption | (exact mL_get (by decide)) | (rw [mL_len]; decide) | (simp only [mL_set]; exact mL_get (by decide)) | (simp only [mL_set, mL_len]; decide) | (exact va_eq) | (exact (va_ne (by omega)).trans (by assumption)) | (exact (va_ne (by omega)).trans va_eq) | (exact (va_ne (by omega)).trans ((va_ne (by omega)).trans (by assumption))) | (exact (va_ne (by omega)).trans ((va_ne (by omega)).trans ((va_ne (by omega)).trans (by assumption)))) | rfl | (exact Or.inl rfl) | (exact Or.inr rfl) | omega | (exact Nat.le_of_ble_eq_true rfl) | decide | (exact ⟨by decide, rfl, by decide⟩)) (by first | (exact (congrFun (gw_X (by decide)) _).trans (hd_9)) | assumption) (by omega) (by exact mL_get (by decide)) (by first | (exact (congrFun (gw_X (by decide)) _).trans (hd_I (by omega) rfl)) | assumption) (Or.inl (by omega)) (by first | assumption | (exact ix_of (by omega) (by omega)) | (exact ⟨by decide, rfl, by decide⟩)) (by rw [h0]; decide +kernel) ?_
    refine hw_W (gw_X (by decide)) ?_
    rw [hat, show b.sX 46 0 = gvL b false from rfl]
    refine b_175_127 _ _ _ _ _ _ (by first | (exact hd_9) | assumption) (by omega) (by exact mL_get (by decide)) (by first | (exact hd_I (by omega) rfl) | assumption) (Or.inl (by omega)) (by first | assumption | (exact ix_of (by omega) (by omega)) | (exact ⟨by decide, rfl, by decide⟩)) (by first | (exact hd_9) | assumption) (by omega) ?_
    rw [h5]
    refine E.1 x _ false _ (by omega) hxk (fun r l c => ?_)
    rw [hv] at c
    have hl : l = true := c
    subst hl
    refine b_175_137 _ _ _ (by first | (exact hd_9) | assumption) (by omega) (by exact mL_get (by decide)) ?_ ?_
    · intro z137
      exact absurd z137 gvL_46t
    · intro z137
      refine b_175_145 _ _ _ ?_
      exact KK.2.2 6 rfl _ gMf.re.vL
  | some w =>
    rw [hv] at KK
    dsimp only at KK
    have fin : ∀ s, mv_min w (Z.S.ac (A * 4 + D)) = s → ¬ w ≤ 0 → ∀ b1, gMf p (gvL b false) b1 → gM n b1 p N tb lo hi wal (if s < w then Z.wn 3 Z.S.at else Z) → ∀ o7, mi_W (e + 103) 175 224 [some (.ref 505), some (.int (Int32.ofNat Z.S.at)), some (.long w), none, some (.int (Int32.ofNat (A * 4 + D))), some (.long s), none, o7] [] (n, sl, hd b1 f0) Q := by
      intro s hs hw b1 f1 k1 o7
      have hpw : (if s < w then Z.wn 3 Z.S.at else Z).S = Z.S := by
        split
        · exact mv_wn_S
        · rfl
      have hpp : (if s < w then Z.wn 3 Z.S.at else Z).ps = Z.ps := by
        split
        · exact mv_wn_p
        · rfl
      have r1 : ∀ q, (505 < q ∧ q < 543) → ∀ i, b1.I q i = (gvL b false).I q i := fun q hq i => congrFun (f1.2.1 q (Or.inr (Or.inl hq))) i
      rw [mv_pay_1 hw hs, if_pos rfl] at KK
      unfold mv_q1 at KK
      have hs0 := mv_min_i hw (hS.1 (A * 4 + D)).1
      rw [hs] at hs0
      refine g_224_1 hn k1 (by rw [hpp]; exact hp1) (by omega) hA hB hD hy8 ((r1 509 (by decide) _).trans w0) ((r1 510 (by decide) _).trans (h1 false)) ((r1 511 (by decide) _).trans (h2 false)) ((r1 512 (by decide) _).trans (h3 false)) ((r1 516 (by decide) _).trans (h8 false)) hs0.1 (fun b' o2 o3 o4 o5 o6 o7 o8 f' k' e' => ?_)
      rw [hpw] at k'
      exact KK.2.1 _ rfl b' _ _ _ _ _ _ _ ((gMf.re.vL.trans f1).trans f') k' e'
    refine b_175_0 (t33 := 127) _ _ _ _ _ _ (by first | (exact hd_9) | assumption) (by omega) (by exact (mL_get (by decide)).trans (congrArg some (by assumption))) (by first | (exact hd_8 (by assumption)) | assumption) (by omega) (by exact rfl) (by first | (exact hd_9) | assumption) (by omega) (by rw [mL_len]; decide) (by first | assumption | (exact mL_get (by decide)) | (rw [mL_len]; decide) | (simp only [mL_set]; exact mL_get (by decide)) | (simp only [mL_set, mL_len]; decide) | (exact va_eq) | (exact (va_ne (by omega)).trans (by assumption)) | (exact (va_ne (by omega)).trans va_eq) | (exact (va_ne (by omega)).trans ((va_ne (by omega)).trans (by assumption))) | (exact (va_ne (by omega)).trans ((va_ne (by omega)).trans ((va_ne (by omega)).trans (by assumption)))) | rfl | (exact Or.inl rfl) | (exact Or.inr rfl) | omega | (exact Nat.le_of_ble_eq_true rfl) | decide | (exact ⟨by decide, rfl, by decide⟩)) (by first | (exact (congrFun (gw_X (by decide)) _).trans (hd_9)) | assumption) (by omega) (by exact mL_get (by decide)) (by first | (exact (congrFun (gw_X (by decide)) _).trans (hd_I (by omega) rfl)) | assumption) (Or.inl (by omega)) (by first | assumption | (exact ix_of (by omega) (by omega)) | (exact ⟨by decide, rfl, by decide⟩)) (by rw [h0]; decide +kernel) ?_
    refine hw_W (gw_X (by decide)) ?_
    rw [hat, show b.sX 46 0 = gvL b false from rfl]
    refine b_175_127 _ _ _ _ _ _ (by first | (exact hd_9) | assumption) (by omega) (by exact mL_get (by decide)) (by first | (exact hd_I (by omega) rfl) | assumption) (Or.inl (by omega)) (by first | assumption | (exact ix_of (by omega) (by omega)) | (exact ⟨by decide, rfl, by decide⟩)) (by first | (exact hd_9) | assumption) (by omega) ?_
    rw [h5]
    refine E.1 x _ false _ (by omega) hxk (fun r l c => ?_)
    rw [hv] at c
    have hl : l = false ∧ r = w := c
    obtain ⟨rfl, rfl⟩ := hl
    refine b_175_137 _ _ _ (by first | (exact hd_9) | assumption) (by omega) (by exact mL_get (by decide)) ?_ ?_
    · intro z137
      refine b_175_148 _ _ _ ?_ ?_
      · intro z148
        have hw0 : ¬ r ≤ 0 := Int64.not_le.mpr (lg_gt.mp z148)
        refine b_175_163 _ _ _ _ _ _ _ _ _ _ _ _ (by first | (exact hd_9) | assumption) (by omega) (by exact mL_get (by decide)) (by first | (exact hd_I (by omega) rfl) | assumption) (Or.inl (by omega)) (by first | assumption | (exact ix_of (by omega) (by omega)) | (exact ⟨by decide, rfl, by decide⟩)) (by first | (exact hd_9) | assumption) (by omega) (by exact mL_get (by decide)) (by first | (exact hd_I (by omega) rfl) | assumption) (Or.inl (by omega)) (by first | assumption | (exact ix_of (by omega) (by omega)) | (exact ⟨by decide, rfl, by decide⟩)) (by first | (exact hd_9) | assumption) (by omega) (by exact (mL_get (by decide)).trans (congrArg some (by assumption))) (by first | (exact hd_8 (by assumption)) | assumption) (by omega) (by exact rfl) (by first | (exact hd_J (by omega) rfl) | (exact hd_L1 (by assumption)) | (exact hd_L2 (by assumption)) | (exact hd_L3 (by assumption)) | assumption) (by omega) (by first | assumption | (exact ix_of (by omega) (by omega)) | (exact ⟨by decide, rfl, by decide⟩)) ?_ ?_
        · intro z163
          rw [hacg] at z163
          rw [e4]
          refine b_175_199 _ _ _ _ _ _ (by first | (exact hd_9) | assumption) (by omega) (by exact (mL_get (by decide)).trans (congrArg some (by assumption))) (by first | (exact hd_8 (by assumption)) | assumption) (by omega) (by exact rfl) (by first | (exact hd_J (by omega) rfl) | (exact hd_L1 (by assumption)) | (exact hd_L2 (by assumption)) | (exact hd_L3 (by assumption)) | assumption) (by omega) (by first | assumption | (exact ix_of (by omega) (by omega)) | (exact ⟨by decide, rfl, by decide⟩)) ?_
          rw [hacg]
          have hs : mv_min r (Z.S.ac (A * 4 + D)) = Z.S.ac (A * 4 + D) := by unfold mv_min; split; rename_i hle; exact Int64.le_antisymm hle (Int64.not_lt.mp (lg_ge.mp z163)); rfl
          refine b_175_209 _ _ _ ?_ ?_
          · intro z209
            have hlt := lg_ge.mp z209
            first | exact fin _ hs hw0 _ gMf.re (by rw [if_neg hlt]; exact h.vL) _ | exact fin _ hs hw0 _ f1 (by rw [if_pos hlt]; exact k1) _
          · intro z209
            have hlt := Classical.not_not.mp (fun h => z209 (lg_ge.mpr h))
            refine b_175_218 _ _ _ (by first | (exact hd_9) | assumption) (by omega) ?_
            refine g_warn (x := 3) hn h.vL hw1 (fun b1 f1 k1 _ => ?_)
            first | exact fin _ hs hw0 _ gMf.re (by rw [if_neg hlt]; exact h.vL) _ | exact fin _ hs hw0 _ f1 (by rw [if_pos hlt]; exact k1) _
        · intro z163
          rw [hacg] at z163
          rw [e4]
          refine b_175_195 _ _ _ ?_
          have hs : mv_min r (Z.S.ac (A * 4 + D)) = r := if_pos (Int64.le_of_lt (Classical.not_not.mp (fun h => z163 (lg_ge.mpr h))))
          refine b_175_209 _ _ _ ?_ ?_
          · intro z209
            have hlt := lg_ge.mp z209
            first | exact fin _ hs hw0 _ gMf.re (by rw [if_neg hlt]; exact h.vL) _ | exact fin _ hs hw0 _ f1 (by rw [if_pos hlt]; exact k1) _
          · intro z209
            have hlt := Classical.not_not.mp (fun h => z209 (lg_ge.mpr h))
            refine b_175_218 _ _ _ (by first | (exact hd_9) | assumption) (by omega) ?_
            refine g_warn (x := 3) hn h.vL hw1 (fun b1 f1 k1 _ => ?_)
            first | exact fin _ hs hw0 _ gMf.re (by rw [if_neg hlt]; exact h.vL) _ | exact fin _ hs hw0 _ f1 (by rw [if_pos hlt]; exact k1) _
      · intro z148
        have hw0 : r ≤ 0 := Int64.not_lt.mp (fun h => z148 (lg_gt.mpr h))
        refine b_175_154 _ _ _ (by first | (exact hd_9) | assumption) (by omega) ?_
        refine g_warn (x := 2) hn h.vL hw1 (fun b1 f1 k1 _ => ?_)
        refine b_175_160 _ _ _ ?_
        rw [mv_pay_0 hw0, if_pos rfl] at KK
        exact g_350 hn k1 (by omega) hy8 ((congrFun (f1.2.1 516 (by decide)) _).trans (h8 false)) (fun b2 o2' f2 k2 e2 => KK.2.1 _ rfl _ _ _ _ _ _ _ _ ((gMf.re.vL.trans f1).trans f2) k2 e2)
    · intro z137
      exact absurd rfl z137
theorem g_s2 (hn : 575 ≤ n) (h : gM n b p N tb lo hi wal Z) (hS : mv_ok Z.S) (hw1 : Z.ws.1 < 148) (hp1 : Z.ps.1 < 148) (hok : mz_ok tb N 100 0 Z.S.at) (hcm : tb Z.S.at = (2, A, B, D, v, x, y, z, u)) (KK : gKs n sl f0 Q (e + 103) b p N tb lo hi wal Z (mv_s1 (mv_E tb Z.S lo hi 100) lo hi Z (2, A, B, D, v, x, y, z, u))) : mi_W (e + 103) 175 0 [some (.ref 505), o2, o3, o4, o5, o6, o7, o8] [] (n, sl, hd b f0) Q := by
  obtain ⟨⟨hps, hpn⟩, ⟨hlo, hhi, hwal⟩, ⟨hN8, hrg, hto⟩, hSt, hev, hlf⟩ := id h
  have hpo := hSt.1
  have hm : Z.S.at < N := mz_u1 hok
  have hat : b.P 0 p 0 = Int32.ofNat Z.S.at := hSt.2.1.1
  obtain ⟨-, hso, had, hx, hls, hy, hz⟩ := mz_un (k := 99) hok
  have hrow := hrg _ hm
  rw [hcm] at hrow had hx hy hz
  unfold gRow at hrow
  unfold mz_ad at had
  dsimp only at hrow had hx hy hz
  obtain ⟨w0, w1, w2, w3, w4, w5, w6, w7, w8, w9, w10, w11, w12, w13, w14⟩ := hrow
  have hix : mi_ix (b.P 0 p 0) 800 Z.S.at := by
    rw [hat]
    exact ix_of (by omega) (by omega)
  have hix2 := ix_of (w := Z.S.at) (m := 800) (by omega) (by omega)
  have h0 : (b.sX 46 0).I 509 Z.S.at = 2 := w0
  rw [mv_s1_2] at KK
  have E := g_E (sl := sl) (f0 := f0) hn (h.rk hS) 100 (by omega)
  have hac := hSt.2.2.2.1
  have h5 : ∀ l, (gvL b l).I 513 Z.S.at = Int32.ofNat x := fun _ => w5 (by decide)
  have h1 : ∀ l, (gvL b l).I 510 Z.S.at = Int32.ofNat A := fun _ => w1 (by decide)
  have h2 : ∀ l, (gvL b l).I 511 Z.S.at = Int32.ofNat B := fun _ => w2 (by decide)
  have h3 : ∀ l, (gvL b l).I 512 Z.S.at = Int32.ofNat D := fun _ => w3 (by decide)
  have h8 : ∀ l, (gvL b l).I 516 Z.S.at = Int32.ofNat y := fun _ => w8 (by decide)
  have hA : A < 8 := had.1 (by decide)
  have hB : B < 8 := had.2.1 (by decide)
  have hD : D < 4 := had.2.2 (by decide)
  have hxk : mz_ok tb N 100 1 x := mz_dn (hx (by decide)).2
  have hy8 : y ≤ 800 := by have := (mz_un (k := 98) (hy (by decide)).2).1; omega
  have e4 := g_ix4 (h1 false) (h3 false)
  have hix4 : mi_ix (4 * (gvL b false).I 510 Z.S.at + (gvL b false).I 512 Z.S.at) 32 (A * 4 + D) := by
    rw [e4]
    exact ix_of (by omega) (by omega)
  have hix5 := ix_of (w := A * 4 + D) (m := 32) (by omega) (by omega)
  have hacg : (gvL b false).L 1 p (A * 4 + D) = Z.S.ac (A * 4 + D) := hac _ (by omega)
  cases hv : (mv_E tb Z.S lo hi 100).1 x with
  | none =>
    rw [hv] at KK
    refine b_175_0 (t33 := 127) _ _ _ _ _ _ (by first | (exact hd_9) | assumption) (by omega) (by exact (mL_get (by decide)).trans (congrArg some (by assumption))) (by first | (exact hd_8 (by assumption)) | assumption) (by omega) (by exact rfl) (by first | (exact hd_9) | assumption) (by omega) (by rw [mL_len]; decide) (by first | assumption | (exact mL_get (by decide)) | (rw [mL_len]; decide) | (simp only [mL_set]; exact mL_get (by decide)) | (simp only [mL_set, mL_len]; decide) | (exact va_eq) | (exact (va_ne (by omega)).trans (by assumption)) | (exact (va_ne (by omega)).trans va_eq) | (exact (va_ne (by omega)).trans ((va_ne (by omega)).trans (by assumption))) | (exact (va_ne (by omega)).trans ((va_ne (by omega)).trans ((va_ne (by omega)).trans (by assumption)))) | rfl | (exact Or.inl rfl) | (exact Or.inr rfl) | omega | (exact Nat.le_of_ble_eq_true rfl) | decide | (exact ⟨by decide, rfl, by decide⟩)) (by first | (exact (congrFun (gw_X (by decide)) _).trans (hd_9)) | assumption) (by omega) (by exact mL_get (by decide)) (by first | (exact (congrFun (gw_X (by decide)) _).trans (hd_I (by omega) rfl)) | assumption) (Or.inl (by omega)) (by first | assumption | (exact ix_of (by omega) (by omega)) | (exact ⟨by decide, rfl, by decide⟩)) (by rw [h0]; decide +kernel) ?_
    refine hw_W (gw_X (by decide)) ?_
    rw [hat, show b.sX 46 0 = gvL b false from rfl]
    refine b_175_127 _ _ _ _ _ _ (by first | (exact hd_9) | assumption) (by omega) (by exact mL_get (by decide)) (by first | (exact hd_I (by omega) rfl) | assumption) (Or.inl (by omega)) (by first | assumption | (exact ix_of (by omega) (by omega)) | (exact ⟨by decide, rfl, by decide⟩)) (by first | (exact hd_9) | assumption) (by omega) ?_
    rw [h5]
    refine E.1 x _ false _ (by omega) hxk (fun r l c => ?_)
    rw [hv] at c
    have hl : l = true := c
    subst hl
    refine b_175_137 _ _ _ (by first | (exact hd_9) | assumption) (by omega) (by exact mL_get (by decide)) ?_ ?_
    · intro z137
      exact absurd z137 gvL_46t
    · intro z137
      refine b_175_145 _ _ _ ?_
      exact KK.2.2 6 rfl _ gMf.re.vL
  | some w =>
    rw [hv] at KK
    dsimp only at KK
    have fin : ∀ s, mv_min w (Z.S.ac (A * 4 + D)) = s → ¬ w ≤ 0 → ∀ b1, gMf p (gvL b false) b1 → gM n b1 p N tb lo hi wal (if s < w then Z.wn 3 Z.S.at else Z) → ∀ o7, mi_W (e + 103) 175 224 [some (.ref 505), some (.int (Int32.ofNat Z.S.at)), some (.long w), none, some (.int (Int32.ofNat (A * 4 + D))), some (.long s), none, o7] [] (n, sl, hd b1 f0) Q := by
      intro s hs hw b1 f1 k1 o7
      have hpw : (if s < w then Z.wn 3 Z.S.at else Z).S = Z.S := by
        split
        · exact mv_wn_S
        · rfl
      have hpp : (if s < w then Z.wn 3 Z.S.at else Z).ps = Z.ps := by
        split
        · exact mv_wn_p
        · rfl
      have r1 : ∀ q, (505 < q ∧ q < 543) → ∀ i, b1.I q i = (gvL b false).I q i := fun q hq i => congrFun (f1.2.1 q (Or.inr (Or.inl hq))) i
      rw [mv_pay_2 hw hs] at KK
      unfold mv_q1 at KK
      dsimp only at KK
      refine g_224_2 hn k1 (by omega) hA hB hD hy8 ((r1 509 (by decide) _).trans w0) ((r1 511 (by decide) _).trans (h2 false)) ((r1 512 (by decide) _).trans (h3 false)) ((r1 516 (by decide) _).trans (h8 false)) (fun Z1 hZ1 hl b' o2 o3 o4 o5 o6 o7 o8 f' k' e' => ?_) (fun Z1 hZ1 hl b' f' => ?_)
      · rw [hpw] at hZ1
        rw [← hZ1, if_pos hl] at KK
        exact KK.2.1 _ rfl b' _ _ _ _ _ _ _ ((gMf.re.vL.trans f1).trans f') k' e'
      · rw [hpw] at hZ1
        rw [← hZ1, if_neg hl] at KK
        exact KK.2.2 6 rfl b' ((gMf.re.vL.trans f1).trans f')
    refine b_175_0 (t33 := 127) _ _ _ _ _ _ (by first | (exact hd_9) | assumption) (by omega) (by exact (mL_get (by decide)).trans (congrArg some (by assumption))) (by first | (exact hd_8 (by assumption)) | assumption) (by omega) (by exact rfl) (by first | (exact hd_9) | assumption) (by omega) (by rw [mL_len]; decide) (by first | assumption | (exact mL_get (by decide)) | (rw [mL_len]; decide) | (simp only [mL_set]; exact mL_get (by decide)) | (simp only [mL_set, mL_len]; decide) | (exact va_eq) | (exact (va_ne (by omega)).trans (by assumption)) | (exact (va_ne (by omega)).trans va_eq) | (exact (va_ne (by omega)).trans ((va_ne (by omega)).trans (by assumption))) | (exact (va_ne (by omega)).trans ((va_ne (by omega)).trans ((va_ne (by omega)).trans (by assumption)))) | rfl | (exact Or.inl rfl) | (exact Or.inr rfl) | omega | (exact Nat.le_of_ble_eq_true rfl) | decide | (exact ⟨by decide, rfl, by decide⟩)) (by first | (exact (congrFun (gw_X (by decide)) _).trans (hd_9)) | assumption) (by omega) (by exact mL_get (by decide)) (by first | (exact (congrFun (gw_X (by decide)) _).trans (hd_I (by omega) rfl)) | assumption) (Or.inl (by omega)) (by first | assumption | (exact ix_of (by omega) (by omega)) | (exact ⟨by decide, rfl, by decide⟩)) (by rw [h0]; decide +kernel) ?_
    refine hw_W (gw_X (by decide)) ?_
    rw [hat, show b.sX 46 0 = gvL b false from rfl]
    refine b_175_127 _ _ _ _ _ _ (by first | (exact hd_9) | assumption) (by omega) (by exact mL_get (by decide)) (by first | (exact hd_I (by omega) rfl) | assumption) (Or.inl (by omega)) (by first | assumption | (exact ix_of (by omega) (by omega)) | (exact ⟨by decide, rfl, by decide⟩)) (by first | (exact hd_9) | assumption) (by omega) ?_
    rw [h5]
    refine E.1 x _ false _ (by omega) hxk (fun r l c => ?_)
    rw [hv] at c
    have hl : l = false ∧ r = w := c
    obtain ⟨rfl, rfl⟩ := hl
    refine b_175_137 _ _ _ (by first | (exact hd_9) | assumption) (by omega) (by exact mL_get (by decide)) ?_ ?_
    · intro z137
      refine b_175_148 _ _ _ ?_ ?_
      · intro z148
        have hw0 : ¬ r ≤ 0 := Int64.not_le.mpr (lg_gt.mp z148)
        refine b_175_163 _ _ _ _ _ _ _ _ _ _ _ _ (by first | (exact hd_9) | assumption) (by omega) (by exact mL_get (by decide)) (by first | (exact hd_I (by omega) rfl) | assumption) (Or.inl (by omega)) (by first | assumption | (exact ix_of (by omega) (by omega)) | (exact ⟨by decide, rfl, by decide⟩)) (by first | (exact hd_9) | assumption) (by omega) (by exact mL_get (by decide)) (by first | (exact hd_I (by omega) rfl) | assumption) (Or.inl (by omega)) (by first | assumption | (exact ix_of (by omega) (by omega)) | (exact ⟨by decide, rfl, by decide⟩)) (by first | (exact hd_9) | assumption) (by omega) (by exact (mL_get (by decide)).trans (congrArg some (by assumption))) (by first | (exact hd_8 (by assumption)) | assumption) (by omega) (by exact rfl) (by first | (exact hd_J (by omega) rfl) | (exact hd_L1 (by assumption)) | (exact hd_L2 (by assumption)) | (exact hd_L3 (by assumption)) | assumption) (by omega) (by first | assumption | (exact ix_of (by omega) (by omega)) | (exact ⟨by decide, rfl, by decide⟩)) ?_ ?_
        · intro z163
          rw [hacg] at z163
          rw [e4]
          refine b_175_199 _ _ _ _ _ _ (by first | (exact hd_9) | assumption) (by omega) (by exact (mL_get (by decide)).trans (congrArg some (by assumption))) (by first | (exact hd_8 (by assumption)) | assumption) (by omega) (by exact rfl) (by first | (exact hd_J (by omega) rfl) | (exact hd_L1 (by assumption)) | (exact hd_L2 (by assumption)) | (exact hd_L3 (by assumption)) | assumption) (by omega) (by first | assumption | (exact ix_of (by omega) (by omega)) | (exact ⟨by decide, rfl, by decide⟩)) ?_
          rw [hacg]
          have hs : mv_min r (Z.S.ac (A * 4 + D)) = Z.S.ac (A * 4 + D) := by unfold mv_min; split; rename_i hle; exact Int64.le_antisymm hle (Int64.not_lt.mp (lg_ge.mp z163)); rfl
          refine b_175_209 _ _ _ ?_ ?_
          · intro z209
            have hlt := lg_ge.mp z209
            first | exact fin _ hs hw0 _ gMf.re (by rw [if_neg hlt]; exact h.vL) _ | exact fin _ hs hw0 _ f1 (by rw [if_pos hlt]; exact k1) _
          · intro z209
            have hlt := Classical.not_not.mp (fun h => z209 (lg_ge.mpr h))
            refine b_175_218 _ _ _ (by first | (exact hd_9) | assumption) (by omega) ?_
            refine g_warn (x := 3) hn h.vL hw1 (fun b1 f1 k1 _ => ?_)
            first | exact fin _ hs hw0 _ gMf.re (by rw [if_neg hlt]; exact h.vL) _ | exact fin _ hs hw0 _ f1 (by rw [if_pos hlt]; exact k1) _
        · intro z163
          rw [hacg] at z163
          rw [e4]
          refine b_175_195 _ _ _ ?_
          have hs : mv_min r (Z.S.ac (A * 4 + D)) = r := if_pos (Int64.le_of_lt (Classical.not_not.mp (fun h => z163 (lg_ge.mpr h))))
          refine b_175_209 _ _ _ ?_ ?_
          · intro z209
            have hlt := lg_ge.mp z209
            first | exact fin _ hs hw0 _ gMf.re (by rw [if_neg hlt]; exact h.vL) _ | exact fin _ hs hw0 _ f1 (by rw [if_pos hlt]; exact k1) _
          · intro z209
            have hlt := Classical.not_not.mp (fun h => z209 (lg_ge.mpr h))
            refine b_175_218 _ _ _ (by first | (exact hd_9) | assumption) (by omega) ?_
            refine g_warn (x := 3) hn h.vL hw1 (fun b1 f1 k1 _ => ?_)
            first | exact fin _ hs hw0 _ gMf.re (by rw [if_neg hlt]; exact h.vL) _ | exact fin _ hs hw0 _ f1 (by rw [if_pos hlt]; exact k1) _
      · intro z148
        have hw0 : r ≤ 0 := Int64.not_lt.mp (fun h => z148 (lg_gt.mpr h))
        refine b_175_154 _ _ _ (by first | (exact hd_9) | assumption) (by omega) ?_
        refine g_warn (x := 2) hn h.vL hw1 (fun b1 f1 k1 _ => ?_)
        refine b_175_160 _ _ _ ?_
        rw [mv_pay_0 hw0, if_pos rfl] at KK
        exact g_350 hn k1 (by omega) hy8 ((congrFun (f1.2.1 516 (by decide)) _).trans (h8 false)) (fun b2 o2' f2 k2 e2 => KK.2.1 _ rfl _ _ _ _ _ _ _ _ ((gMf.re.vL.trans f1).trans f2) k2 e2)
    · intro z137
      exact absurd rfl z137
end
