/-! the second object: end -/
section
variable {d e r n sl fd many q k : Nat} {b b' : mg_A} {f0 : Nat → mi_C} {Q : (Option Value ⊕ Nat) → mi_H → Prop} {oc : Nat → Int32} {wr wr' x : Int32} {w : Nat → Int64} {ins : Nat → mv_I} {ev : mv_Z} {re : ma_R} {con con' : Option mx_K} {X : Nat → Int32} {Y : Nat → Int64} {I : Nat → Nat → Int32} {J : Nat → Nat → Int64} {ee : mr_E}
theorem gX.en (h : gX r n sl b fd oc wr w many ins ev re con) (x1 : X 1 = 0) (x3 : X 3 = wr') (x59 : X 59 = 0) (fx : ∀ j, 59 < j → X j = b.I 505 j) (fi : ∀ q, 530 < q → I q = b.I q) (fj : ∀ q, 519 < q → J q = b.J q) (h4 : ∀ j, ee.2.2.2.2.2.1 j = 0 ∨ ee.2.2.2.2.2.1 j = 1) (h5 : ∀ j, ee.2.2.2.2.2.2 j = 0 ∨ ee.2.2.2.2.2.2 j = 1) (hC : gCo (mg_bk b X Y I J ee) con') : gX r n sl (mg_bk b X Y I J ee) 0 oc wr' w 0 ins ev re con' := by
  have eI : ∀ q, 530 < q → (mg_bk b X Y I J ee).I q = b.I q := fun q hq => (bk_I (by omega)).trans (fi q hq)
  have eJ : ∀ q, 530 < q → (mg_bk b X Y I J ee).J q = b.J q := fun q hq => (bk_J (by omega)).trans (fj q (by omega))
  have eX : ∀ j, 59 < j → (mg_bk b X Y I J ee).I 505 j = b.I 505 j := fun j hj => (congrFun bk_X j).trans (fx j hj)
  refine ⟨⟨(congrFun bk_X 1).trans x1, Nat.zero_le _, fun k hk => absurd hk (Nat.not_lt_zero k)⟩, (congrFun bk_X 3).trans x3, fun j hj => ?_, ⟨(congrFun bk_X 59).trans x59, Nat.zero_le _, fun k hk => absurd hk (Nat.not_lt_zero k)⟩, ?_, ?_, hC, h.2.2.2.2.2.2.2.1.to rfl rfl, fun j => ?_⟩
  · rw [eJ 550 (by decide)]
    exact h.2.2.1 j hj
  · have := h.2.2.2.2.1
    unfold gTo
    rw [eX 65 (by decide), eX 66 (by decide), eI 556 (by decide), eI 557 (by decide), eI 558 (by decide), eI 559 (by decide), eI 560 (by decide), eJ 561 (by decide)]
    exact this
  · have := h.2.2.2.2.2.1
    unfold gRes
    rw [eX 73 (by decide), eX 75 (by decide), eI 564 (by decide), eI 565 (by decide), eJ 567 (by decide)]
    exact this
  · rw [bk_P4, bk_P5]
    exact ⟨h4 j, h5 j⟩
theorem gX.ks (h : gX r n sl b fd oc wr w many ins ev re con) (hK : mr_KS n f0) : mr_KS n (hd b f0) := by
  obtain ⟨h1, h2, ka, g, h3, h4, h5, h6⟩ := hK
  obtain ⟨u, pl, hBy, -⟩ := h.2.2.2.2.2.2.2.1
  refine ⟨h1, fun c hc => ?_, ka, g, h3, h4, ?_, h6⟩
  · obtain ⟨fs, e⟩ := h2 c hc
    refine ⟨fs, ?_⟩
    have hn := hBy.2.2.2.2.2.2.2
    have hz : b.D (mi_SC + 1 + 2 * c) = 0 := hBy.2.2.2.1 _ (by omega)
    rw [hd_5 (by omega) (by rw [mg_th (by omega), hz]; rfl)]
    exact e
  · rw [hd_5 (by decide) rfl]
    exact h5
theorem mv_ok0 : mv_ok mx_S0 := ⟨fun _ => ⟨(show (0 : Int) ≤ 0 by decide), (show (0 : Int) ≤ 4611686018427387904 by decide)⟩, fun _ _ h => (by cases h), fun _ _ h => (by cases h)⟩
theorem gq_end (h : gX r n sl b fd oc wr w many ins ev re con) (hK : mr_KS n f0) (K1 : (x < 0 ∨ 8192 < x ∨ ¬ x ≤ Int32.ofNat fd) → ∀ b', gX r n sl b' fd oc wr w many ins ev re con → b'.I 505 0 = 1 → Q (.inl (some (.int 0))) (n, sl, hd b' f0)) (K2 : ∀ L wv b', x = Int32.ofNat L → L ≤ 8192 → L ≤ fd → ((wv < L ∧ rfb (b.I 506 wv) ∧ ∀ j, j < wv → ¬ rfb (b.I 506 j)) ∨ (∀ j, j < L → ¬ rfb (b.I 506 j)) ∧ ms_read (rG (b.I 506) (b.I 507) L) L = .error wv) → gX r n sl b' 0 oc (Int32.ofNat wv) w 0 ins ev re none → b'.I 505 0 = 2 → Q (.inl (some (.int 0))) (n, sl, hd b' f0)) (K3 : ∀ L σ b', x = Int32.ofNat L → L ≤ 8192 → L ≤ fd → (∀ j, j < L → ¬ rfb (b.I 506 j)) → ms_read (rG (b.I 506) (b.I 507) L) L = .ok ((), σ) → pK (mx_K0 σ) → gX r n sl b' 0 oc (-1) w 0 ins ev re (some (mx_K0 σ)) → b'.I 505 0 = 0 → Q (.inl (some (.int (Int32.ofNat σ.n)))) (n, sl, hd b' f0)) : mi_W (e + 432) 141 0 (mi_en 3 [.ref 505, .int x]) [] (n, sl, hd b f0) Q := by
  have hn := h.2.2.2.2.2.2.2.1.nn.1
  have e1 : b.I 505 1 = Int32.ofNat fd := h.1.1
  have hFl := h.2.2.2.2.2.2.2.2
  have hS0 := hd_mS (f0 := f0) hFl
  refine sq_end (I := b.I) (J := b.J) (X := b.I 505) (Y := b.J 505) (s := b.s) (ev := mg_e0 b) hn hd_mB (h.ks hK) hS0 e1 h.1.2.1 (fun hx f' hB' hf' => ?_) (fun L wv z' hx hL hLf hw he => ?_) (fun L z' σ e' hx hL hLf hno hrd hst fX f4 fY fI fJ hrg hmz hSv h0 hfr => ?_)
  · rw [e1] at hx
    have ef : f' = hd (b.sX 0 1) f0 := by
      funext q
      by_cases hq : q = 505
      · subst hq
        rw [hd_9, hB'.1]
        have e1 : (b.sX 0 1).I 505 = va_up (b.I 505) 0 1 := va_eq (f := b.I) (k := 505) (v := va_up (b.I 505) 0 1)
        rw [e1]
        rfl
      · rw [hf' q hq, ← gw_X (b := b) (f0 := f0) (k := 0) (v := 1) rfl, va_ne hq]
    rw [ef]
    exact K1 hx _ h.er rfl
  · obtain ⟨hB, h3, fX, fY, fI, fJ, ff⟩ := he
    have hS : mr_Sv z'.f 531 (mg_e0 b) := hS0.to (fun q h1 h2 => ff q (by unfold mr_far; omega))
    have ef := hd_bk (b := b) (f0 := f0) hB hS (fun q hq => ff q (by unfold mr_far; omega))
    have x0 : z'.X 0 = 2 := (fX 0 (by decide)).trans rfl
    have x1 : z'.X 1 = 0 := (fX 1 (by decide)).trans rfl
    have x4 : z'.X 4 = -1 := (fX 4 (by decide)).trans rfl
    have x59 : z'.X 59 = 0 := (fX 59 (by decide)).trans rfl
    rw [ef]
    refine K2 L wv _ hx hL hLf hw (h.en x1 h3 x59 (fun j hj => ?_) (fun q hq => ?_) (fun q hq => fJ q (by omega)) (fun j => (hFl j).1) (fun j => (hFl j).2) ((congrFun bk_X 4).trans x4)) ((congrFun bk_X 0).trans x0)
    · refine (fX j (by omega)).trans ?_
      show va_up (mr_X1 (b.I 505) x) 0 2 j = _
      unfold mr_X1
      rw [va_ne (by omega), va_ne (by omega), va_ne (by omega), va_ne (by omega), va_ne (by omega), va_ne (by omega), va_ne (by omega)]
    · refine (fI q (by omega)).trans ?_
      exact va_ne (show ¬ q = 507 by omega)
  · have ef := hd_bk (b := b) (f0 := f0) hst.1 hSv (fun q hq => hfr q hq)
    obtain ⟨-, -, hTk, h3, ⟨h21, h800⟩, -, ⟨h23, hqb, hbd⟩, ⟨h24, -⟩, ⟨h25, -⟩, ⟨h27, -⟩, h26, -⟩ := hst
    have hok := ms_read_ok hrd
    have hle := hTk.le
    have x0 : z'.X 0 = 0 := (fX 0 (by decide)).trans rfl
    have x1 : z'.X 1 = 0 := (fX 1 (by decide)).trans rfl
    have x59 : z'.X 59 = 0 := (fX 59 (by decide)).trans rfl
    obtain ⟨s0, s1, s2, s3⟩ := h0
    have hC : gKo (mg_bk b z'.X z'.Y z'.I z'.J e') (mx_K0 σ) := by
      refine ⟨(congrFun bk_X 4).trans f4, ⟨⟨h800, fun m hm => ?_, fun m => ms_sm_in (hok.2.1 m)⟩, ⟨?_, fun j hj => ?_, hok.2.2.2⟩, hok.2.2.1⟩, ⟨mg_o531, ⟨s0, (show (0 : Nat) ≤ 800 by decide)⟩, s1, s2, fun j hj => ?_, fun j hj => ?_⟩, (congrFun bk_X 21).trans h21, (congrFun bk_X 24).trans h24, (congrFun bk_X 25).trans h25, (congrFun bk_X 26).trans h26, (congrFun bk_X 27).trans h27⟩
      · unfold gRow
        rw [bk_I (by decide), bk_I (by decide), bk_I (by decide), bk_I (by decide), bk_I (by decide), bk_I (by decide), bk_I (by decide), bk_I (by decide), bk_I (by decide), bk_I (by decide), bk_J (by decide)]
        exact hrg m (Nat.zero_le _) hm
      · show σ.q ≤ 4200
        omega
      · rw [bk_J (by decide), bk_J (by decide)]
        exact hbd j hj
      · rw [bk_P4, bk_L2]
        refine ⟨hSv.2.2.2.2.2.2.1 j, ?_⟩
        rw [if_pos (s3 j hj).2.2.1]
        rfl
      · rw [bk_P5, bk_L3]
        refine ⟨hSv.2.2.2.2.2.2.2 j, ?_⟩
        rw [if_pos (s3 j hj).2.2.2]
        rfl
    rw [ef]
    refine K3 L σ _ hx hL hLf hno hrd ⟨mv_ok0, hmz, ⟨100, σ.n, Nat.le_refl _, Nat.le_refl _, ms_read_c hrd⟩⟩ (h.en x1 h3 x59 (fun j hj => ?_) (fun q hq => fI q (by omega)) (fun q hq => fJ q (by omega)) hSv.2.2.2.2.2.2.1 hSv.2.2.2.2.2.2.2 hC) ((congrFun bk_X 0).trans x0)
    refine (fX j (by omega)).trans ?_
    unfold mr_X1
    rw [va_ne (by omega), va_ne (by omega), va_ne (by omega), va_ne (by omega), va_ne (by omega), va_ne (by omega)]
end
