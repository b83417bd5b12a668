/-! the second object: analyse whole -/
section
variable {d e r n sl fd many A q k u ee : Nat} {b b1 b2 b' : mg_A} {f0 : Nat → mi_C} {Q : (Option Value ⊕ Nat) → mi_H → Prop} {oc : Nat → Int32} {wr x : Int32} {w : Nat → Int64} {ins : Nat → mv_I} {ev : mv_Z} {re : ma_R} {K : mx_K} {D : Nat → Nat} {pl : Nat → Nat} {I : mv_I}
theorem gq_analyse0 (h : gX r n sl b fd oc wr w many ins ev re none) (K1 : ∀ b', gX r n sl b' fd oc wr w many ins ev re none → b'.I 505 0 = 1 → Q (.inl (some (.int 0))) (n, sl, hd b' f0)) : mi_W (d + 1) 194 0 (mi_en 4 [.ref 505]) [] (n, sl, hd b f0) Q := by
  have hn := h.2.2.2.2.2.2.2.1.nn.1
  have e4 : b.I 505 4 = -1 := h.2.2.2.2.2.2.1
  have n4 : ¬ (0 : Int32) ≤ b.I 505 4 := by rw [e4]; decide
  refine b_194_0 _ _ _ (by first | (exact hd_9) | assumption) (by omega) (by rw [mL_len]; decide) (by first | (exact (congrFun (gw_X (by decide)) _).trans (hd_9)) | assumption) (by omega) (by exact mL_get (by decide)) ?_ ?_
  · intro z0
    exact absurd z0 n4
  · intro z0
    refine hw_W (gw_X (by decide)) ?_
    refine b_194_13 _ _ _ ?_
    refine b_194_18 _ _ _ (by first | (exact hd_9) | assumption) (by omega) ?_
    refine g_fl1 hn rfl (by decide) ?_
    refine b_194_22 _ _ _ ?_ ?_
    · intro z22
      first | (exact absurd z22 (by decide)) | (exact absurd (by decide) z22) | (exact absurd rfl z22) | (exact absurd z22 (of_nn (by omega))) | (exact absurd (of_np (by omega)) z22) | omega
    · intro z22
      refine b_194_25 _ _ _ ?_
      exact K1 _ h.er.er rfl
theorem gAn.sX (hk : k = 0 ∨ (43 ≤ k ∧ ¬ k = 65 ∧ ¬ k = 66)) : gAn b (b.sX k x) := ⟨fun q h => va_ne (by omega), fun _ _ => rfl, fun j hj => (congrFun (va_eq (f := b.I) (k := 505)) j).trans (va_ne (by omega)), fun _ => ⟨rfl, rfl⟩⟩
theorem gAn.trans (h : gAn b b1) (h' : gAn b1 b2) : gAn b b2 := ⟨fun q hq => (h'.1 q hq).trans (h.1 q hq), fun q hq => (h'.2.1 q hq).trans (h.2.1 q hq), fun q hq => (h'.2.2.1 q hq).trans (h.2.2.1 q hq), fun k => ⟨(h'.2.2.2 k).1.trans (h.2.2.2 k).1, (h'.2.2.2 k).2.trans (h.2.2.2 k).2⟩⟩
theorem gAn.cy (h : gCy A b b1) (hA : A = 551 ∨ A = 569) : gAn b b1 := ⟨fun q hq => h.1 q (by omega), fun q hq => h.2.1 q (by omega), fun j _ => by rw [h.1 505 (by omega)], fun k => by rw [h.2.2.1, h.2.2.2.1]; exact ⟨rfl, rfl⟩⟩
theorem gAn.af (h : gAf 0 u pl b b1) (hp : ∀ i, i < u → ¬ 531 = pl i) : gAn b b1 := ⟨fun q hq => h.1 q (by omega) (by omega) (by omega) (by omega), fun q hq => h.2.1 q (by omega) (by omega) (by omega) (by omega) (by omega) (by omega), fun j hj => h.2.2.1 j (by omega), fun k => h.2.2.2.2.1 k 531 (fun i _ hi => hp i hi)⟩
theorem gAn.sD : gAn b (b.sD D) := ⟨fun _ _ => rfl, fun _ _ => rfl, fun _ _ => rfl, fun _ => ⟨rfl, rfl⟩⟩
theorem gIn.cy (h : gIn b k I) (e1 : b'.I 551 k = b.I 551 k) (e2 : b'.I 552 k = b.I 552 k) (e3 : b'.I 553 k = b.I 553 k) (e4 : b'.I 554 k = b.I 554 k) (e5 : b'.J 555 k = b.J 555 k) : gIn b' k I := by
  unfold gIn
  rw [e1, e2, e3, e4, e5]
  exact h
theorem gTb.an {N BN : Nat} {tb : Nat → ms_N} {bd : Nat → Int64 × Int64} (h : gTb b N BN tb bd) (f : gAn b b1) : gTb b1 N BN tb bd := by
  obtain ⟨⟨h1, h2, h3⟩, h4, h5⟩ := h
  have fi : ∀ q, 505 < q → q < 543 → b1.I q = b.I q := fun q h1 h2 => f.1 q (by omega)
  have fj : ∀ q, 505 < q → q < 543 → b1.J q = b.J q := fun q h1 h2 => f.2.1 q (by omega)
  refine ⟨⟨h1, fun m hm => ?_, h3⟩, ?_, h5⟩
  · unfold gRow
    rw [fi 509 (by decide) (by decide), fi 510 (by decide) (by decide), fi 511 (by decide) (by decide), fi 512 (by decide) (by decide), fi 513 (by decide) (by decide), fi 514 (by decide) (by decide), fi 515 (by decide) (by decide), fi 516 (by decide) (by decide), fi 529 (by decide) (by decide), fi 530 (by decide) (by decide), fj 517 (by decide) (by decide)]
    exact h2 m hm
  · unfold gBd
    rw [fj 518 (by decide) (by decide), fj 519 (by decide) (by decide)]
    exact h4
theorem gAn.st {S : mv_S} (f : gAn b b1) (h : mg_S b 531 S) : mg_S b1 531 S := by
  obtain ⟨-, h⟩ := h
  refine ⟨mg_o531, ?_⟩
  rw [(f.2.2.2 0).1, (f.2.2.2 0).2, (f.2.2.2 1).2, (f.2.2.2 2).2, (f.2.2.2 3).2, (f.2.2.2 4).1, (f.2.2.2 5).1]
  exact h
theorem gq_analyse (h : gX r n sl b fd oc wr w many ins ev re (some K)) (hp : pK K) (he : ee ≤ K.1.1) (hk : k ≤ 100) (hmc : mo_c K.1.2.2.1 k K.2.1.at ee) (K3 : mo_any K.1.2.2.1 K.1.2.2.2 K.2.1.at ee → ∀ b', gX r n sl b' fd oc wr w many ins ev (0, 0, []) (some K) → b'.I 505 0 = 0 → Q (.inl (some (.int 3))) (n, sl, hd b' f0)) (KK : ¬ mo_any K.1.2.2.1 K.1.2.2.2 K.2.1.at ee → ∀ n' sl' b', gX r n' sl' b' fd oc wr w many ins ev (ma_go K.1.2.2.1 K.1.2.2.2 103 K.2.1 0) (some K) → b'.I 505 0 = 0 → Q (.inl (some (.int (Int32.ofNat (ma_go K.1.2.2.1 K.1.2.2.2 103 K.2.1 0).1)))) (n', sl', hd b' f0)) : mi_W (e + 533) 194 0 (mi_en 4 [.ref 505]) [] (n, sl, hd b f0) Q := by
  have hn := h.2.2.2.2.2.2.2.1.nn.1
  have hKo : gKo b K := h.2.2.2.2.2.2.1
  obtain ⟨e4, hT, hS, -⟩ := id hKo
  have n4 : (0 : Int32) ≤ b.I 505 4 := by rw [e4]; decide
  obtain ⟨mok, mzk, mR⟩ := hp
  have h16 := h.2.2.2.1.2.1
  have hI := h.2.2.2.1.2.2
  have e59 : b.I 505 59 = Int32.ofNat many := h.2.2.2.1.1
  obtain ⟨u, pl, hBy, hD0, hD1, hr1, hr2, hr3⟩ := id h.2.2.2.2.2.2.2.1
  have hat : b.P 0 531 0 = Int32.ofNat K.2.1.at := hS.2.1.1
  have F1 : gAn b ((((b.sX 0 0).sX 73 0).sX 75 0).sX 74 0) := ((gAn.sX (k := 0) (by omega)).trans (gAn.sX (k := 73) (by omega))).trans ((gAn.sX (k := 75) (by omega)).trans (gAn.sX (k := 74) (by omega)))
  have x0 : ((((b.sX 0 0).sX 73 0).sX 75 0).sX 74 0).I 505 0 = 0 := rfl
  have x73 : ((((b.sX 0 0).sX 73 0).sX 75 0).sX 74 0).I 505 73 = 0 := rfl
  have x74 : ((((b.sX 0 0).sX 73 0).sX 75 0).sX 74 0).I 505 74 = 0 := rfl
  have x75 : ((((b.sX 0 0).sX 73 0).sX 75 0).sX 74 0).I 505 75 = 0 := rfl
  have x59 : ((((b.sX 0 0).sX 73 0).sX 75 0).sX 74 0).I 505 59 = Int32.ofNat many := e59
  have xI : ∀ q, ¬ q = 505 → ((((b.sX 0 0).sX 73 0).sX 75 0).sX 74 0).I q = b.I q := fun q hq => (va_ne hq).trans ((va_ne hq).trans ((va_ne hq).trans (va_ne hq)))
  have xJ : ((((b.sX 0 0).sX 73 0).sX 75 0).sX 74 0).J = b.J := rfl
  have xB : ((((b.sX 0 0).sX 73 0).sX 75 0).sX 74 0).B = b.B := rfl
  have xD : ((((b.sX 0 0).sX 73 0).sX 75 0).sX 74 0).D = b.D := rfl
  have xat : ((((b.sX 0 0).sX 73 0).sX 75 0).sX 74 0).P 0 531 0 = Int32.ofNat K.2.1.at := hat
  generalize hB : (((b.sX 0 0).sX 73 0).sX 75 0).sX 74 0 = bb at *
  generalize hG : ma_go K.1.2.2.1 K.1.2.2.2 103 K.2.1 0 = G at KK
  have fin : ¬ mo_any K.1.2.2.1 K.1.2.2.2 K.2.1.at ee → ∀ (b2 : mg_A) (l3 : Int32) (o4 : Option Value), gCy 569 (bb.sX 57 0) b2 → (∀ i, i < many → b2.I 569 i = (bb.sX 57 0).I 551 i ∧ b2.I 570 i = (bb.sX 57 0).I 552 i ∧ b2.I 571 i = (bb.sX 57 0).I 553 i ∧ b2.I 572 i = (bb.sX 57 0).I 554 i ∧ b2.J 573 i = (bb.sX 57 0).J 555 i) → mi_W (e + 533) 194 141 [some (.ref 505), some (.int (Int32.ofNat many)), some (.int l3), o4] [] (n, sl, hd b2 f0) Q := by
    intro hb b2 l3 o4 f2 h2
    have F2 : gAn b b2 := (F1.trans (gAn.sX (k := 57) (by omega))).trans (gAn.cy f2 (Or.inr rfl))
    have yX : ∀ j, ¬ j = 57 → b2.I 505 j = bb.I 505 j := fun j hj => (congrFun (f2.1 505 (by omega)) j).trans ((congrFun (va_eq (f := bb.I) (k := 505)) j).trans (va_ne hj))
    have y57 : b2.I 505 57 = 0 := (congrFun (f2.1 505 (by omega)) 57).trans rfl
    have yD : b2.D = b.D := f2.2.2.2.2.2.2.trans xD
    have yB : b2.B = b.B := f2.2.2.2.2.2.1.trans xB
    have hBy2 : gBy n sl b2 u pl := hBy.to yB yD
    have hNB := mo_c_nb (bd := K.1.2.2.2) k K.2.1.at ee hmc hb
    have hGh := hBy2.gh (x := n + 6 * (104 - u)) (y := sl + 71 * (104 - u)) (Nat.le_refl _) (Nat.le_trans hBy2.2.2.2.2.2.1.1 hBy2.2.2.2.2.2.1.2) (Nat.le_refl _) (Nat.le_trans hBy2.2.2.2.2.2.2.1.1 hBy2.2.2.2.2.2.2.1.2)
    have T2 := hT.an F2
    have S2 := F2.st hS
    have hpl : ∀ i, i < u → 574 < pl i := fun i hi => (hBy.1 i hi).2.1
    have F3 : gAn b (b2.sD (mg_gh b2.D (n + 6 * (104 - u)) (sl + 71 * (104 - u)))) := F2.trans gAn.sD
    have eH : hd b2 f0 = hd (b2.sD (mg_gh b2.D (n + 6 * (104 - u)) (sl + 71 * (104 - u)))) f0 := (hd_D (fun q hq => mg_gh_D hq)).symm
    rw [eH]
    have y3 : ∀ j, (b2.sD (mg_gh b2.D (n + 6 * (104 - u)) (sl + 71 * (104 - u)))).I j = b2.I j := fun _ => rfl
    have yJ3 : ∀ j, (b2.sD (mg_gh b2.D (n + 6 * (104 - u)) (sl + 71 * (104 - u)))).J j = b2.J j := fun _ => rfl
    have yD0 : (b2.sD (mg_gh b2.D (n + 6 * (104 - u)) (sl + 71 * (104 - u)))).D 0 = n + 6 * (104 - u) := rfl
    have yD1 : (b2.sD (mg_gh b2.D (n + 6 * (104 - u)) (sl + 71 * (104 - u)))).D 1 = sl + 71 * (104 - u) := rfl
    have C3 : gCx n sl (b2.sD (mg_gh b2.D (n + 6 * (104 - u)) (sl + 71 * (104 - u)))) 0 u pl 0 K.1.1 K.1.2.1 K.1.2.2.1 K.1.2.2.2 := ⟨T2, y57, hGh, ⟨(yX 73 (by decide)).trans x73, by decide⟩, ⟨(yX 74 (by decide)).trans x74, by decide⟩⟩
    have S3 : mg_S (b2.sD (mg_gh b2.D (n + 6 * (104 - u)) (sl + 71 * (104 - u)))) 531 K.2.1 := F3.st hS
    generalize hB3 : b2.sD (mg_gh b2.D (n + 6 * (104 - u)) (sl + 71 * (104 - u))) = b3 at *
    refine b_194_141 _ _ _ (by first | (exact hd_9) | assumption) (by omega) (by exact mL_get (by decide)) (by first | (exact hd_9) | assumption) (by omega) ?_
    refine g_goOn 103 n sl b3 0 u pl 0 K.2.1 531 (e + 532) _ rfl (Nat.zero_le _) (by omega) C3 S3 (by omega) (fun i _ hi => ?_) mok ⟨100, Nat.le_refl _, mzk, fun _ => by omega, by omega⟩ hNB (by omega) ?_
    · have := hpl i hi
      omega
    · rw [hG]
      rintro n4 sl4 b4 ⟨u4, pl4, C4, A4, hu4, ⟨hp4, hp4'⟩, hn4, hD4, hF4, hG2⟩
      have hp5 : ∀ i, i < u4 → ¬ 531 = pl4 i := fun i hi => by have := (C4.2.2.1.1 i hi).2.1; omega
      have F4 : gAn b b4 := F3.trans (gAn.af A4 hp5)
      refine b_194_149 _ _ _ (by first | (exact hd_9) | assumption) (by omega) (by rw [mL_len]; decide) ?_
      refine hw_W (gw_X (by decide)) ?_
      refine g_kb (b := b4.sX 59 (Int32.ofNat many)) (by omega) h16 (fun b5 f5 h5 => ?_) many 0 _ (by omega) gCy.r0 (fun i hi => absurd hi (Nat.not_lt_zero i))
      have F5 : gAn b b5 := (F4.trans (gAn.sX (k := 59) (by omega))).trans (gAn.cy f5 (Or.inl rfl))
      have D5 : b5.D = b4.D := f5.2.2.2.2.2.2
      have B5 : b5.B = b4.B := f5.2.2.2.2.2.1
      have By5 : gBy n4 sl4 b5 u4 pl4 := C4.2.2.1.to B5 D5
      have D50 : b5.D 0 = n + 6 * (104 - u) := by rw [D5, hD4 0 (by omega)]; exact yD0
      have D51 : b5.D 1 = sl + 71 * (104 - u) := by rw [D5, hD4 1 (by omega)]; exact yD1
      have r1 : n4 + 6 * (104 - u4) ≤ 1300 + r := Nat.le_trans By5.2.2.2.2.2.1.1 (by rw [D50]; exact hr1)
      have r2 : sl4 + 71 * (104 - u4) ≤ 120000 + 6 * r := Nat.le_trans By5.2.2.2.2.2.2.1.1 (by rw [D51]; exact hr2)
      have By6 := By5.gh (x := mi_NC) (y := mi_NS) (Nat.le_trans r1 (Nat.le_trans (show 1300 + r ≤ 1300 + 3072 by omega) (by decide))) (Nat.le_refl _) (Nat.le_trans r2 (Nat.le_trans (show 120000 + 6 * r ≤ 120000 + 6 * 3072 by omega) (by decide))) (Nat.le_refl _)
      have eH5 : hd b5 f0 = hd (b5.sD (mg_gh b5.D mi_NC mi_NS)) f0 := (hd_D (fun q hq => mg_gh_D hq)).symm
      have zX : ∀ j, ¬ j = 59 → b5.I 505 j = b4.I 505 j := fun j hj => (congrFun (f5.1 505 (by omega)) j).trans ((congrFun (va_eq (f := b4.I) (k := 505)) j).trans (va_ne hj))
      have z59 : b5.I 505 59 = Int32.ofNat many := (congrFun (f5.1 505 (by omega)) 59).trans rfl
      have z0 : b5.I 505 0 = 0 := (zX 0 (by decide)).trans ((A4.2.2.1 0 (by decide)).trans ((congrFun (y3 505) 0).trans ((yX 0 (by decide)).trans x0)))
      have zI : ∀ q, 555 < q → b5.I q = b4.I q := fun q hq => (f5.1 q (by omega)).trans (va_ne (by omega))
      have zJ : ∀ q, 555 < q → b5.J q = b4.J q := fun q hq => f5.2.1 q (by omega)
      have aI : ∀ q, 569 ≤ q → (b4.sX 59 (Int32.ofNat many)).I q = b2.I q := fun q hq => (va_ne (show ¬ q = 505 by omega)).trans ((A4.1 q (by omega) (by omega) (by omega) (by omega)).trans (y3 q))
      have aJ : (b4.sX 59 (Int32.ofNat many)).J 573 = b2.J 573 := (A4.2.1 573 (by omega) (by omega) (by omega) (by omega) (by omega) (by omega)).trans (yJ3 573)
      have bI : ∀ q, ¬ q = 505 → (bb.sX 57 0).I q = b.I q := fun q hq => (va_ne hq).trans (xI q hq)
      have bJ : (bb.sX 57 0).J 555 = b.J 555 := congrFun xJ 555
      rw [eH5]
      refine KK hb n4 sl4 _ (h.an (F5.trans gAn.sD) ⟨z59, h16, fun j hj => (hI j hj).cy ?_ ?_ ?_ ?_ ?_⟩ ?_ ⟨u4, pl4, By6, rfl, rfl, r1, r2, hr3⟩) z0
      · exact ((h5 j hj).1.trans (congrFun (aI 569 (by decide)) j)).trans ((h2 j hj).1.trans (congrFun (bI 551 (by decide)) j))
      · exact ((h5 j hj).2.1.trans (congrFun (aI 570 (by decide)) j)).trans ((h2 j hj).2.1.trans (congrFun (bI 552 (by decide)) j))
      · exact ((h5 j hj).2.2.1.trans (congrFun (aI 571 (by decide)) j)).trans ((h2 j hj).2.2.1.trans (congrFun (bI 553 (by decide)) j))
      · exact ((h5 j hj).2.2.2.1.trans (congrFun (aI 572 (by decide)) j)).trans ((h2 j hj).2.2.2.1.trans (congrFun (bI 554 (by decide)) j))
      · exact ((h5 j hj).2.2.2.2.trans (congrFun aJ j)).trans ((h2 j hj).2.2.2.2.trans (congrFun bJ j))
      · refine ⟨(zX 73 (by decide)).trans C4.2.2.2.1.1, fun g1 => ?_, fun g1 => ?_, hG2, C4.2.2.2.1.2⟩
        · exact (zX 75 (by decide)).trans ((hF4.1 g1).trans ((congrFun (y3 505) 75).trans ((yX 75 (by decide)).trans x75)))
        · obtain ⟨k1, k2, -, k4⟩ := hF4.2 g1
          rw [Nat.zero_add] at k1 k2
          refine ⟨(zX 75 (by decide)).trans k1, k2, fun i p hip => ?_⟩
          have k5 := k4 i p hip
          rw [Nat.zero_add] at k5
          exact ⟨(congrFun (zI 564 (by decide)) i).trans k5.1, (congrFun (zJ 567 (by decide)) i).trans k5.2.1, (congrFun (zI 565 (by decide)) i).trans k5.2.2⟩
  have o531 := mg_o531 (D := b.D)
  refine b_194_0 _ _ _ (by first | (exact hd_9) | assumption) (by omega) (by rw [mL_len]; decide) (by first | (exact (congrFun (gw_X (by decide)) _).trans (hd_9)) | assumption) (by omega) (by exact mL_get (by decide)) ?_ ?_
  · intro z0
    refine hw_W (gw_X (by decide)) ?_
    refine b_194_17 _ _ _ ?_
    refine b_194_18 _ _ _ (by first | (exact hd_9) | assumption) (by omega) ?_
    refine g_fl0 hn rfl ?_
    refine b_194_22 _ _ _ ?_ ?_
    · intro z22
      refine b_194_27 _ _ _ (by first | (exact hd_9) | assumption) (by omega) (by rw [mL_len]; decide) (by first | (exact (congrFun (gw_X (by decide)) _).trans (hd_9)) | assumption) (by omega) (by rw [mL_len]; decide) (by first | (exact (congrFun (hw_2 (gw_X (by decide)) (gw_X (by decide))) _).trans (hd_9)) | assumption) (by omega) (by rw [mL_len]; decide) (by first | (exact (congrFun (hw_2 (hw_2 (gw_X (by decide)) (gw_X (by decide))) (gw_X (by decide))) _).trans (hd_9)) | assumption) (by omega) (by exact mL_get (by decide)) (by first | (exact (congrFun (hw_2 (hw_2 (gw_X (by decide)) (gw_X (by decide))) (gw_X (by decide))) _).trans (hd_8 (by assumption))) | assumption) (by omega) (by exact rfl) (by first | (exact (congrFun (hw_2 (hw_2 (gw_X (by decide)) (gw_X (by decide))) (gw_X (by decide))) _).trans (hd_9)) | assumption) (by omega) ?_
      refine hw_W (hw_2 (hw_2 (gw_X (by decide)) (gw_X (by decide))) (gw_X (by decide))) ?_
      rw [hB, xat]
      refine g_out hn (hT.an F1) k K.2.1.at ee (e + 532) _ hmc he (by omega) (fun hb => ?_) (fun hb => ?_)
      · refine b_194_53 _ _ _ ?_ ?_
        · intro z53
          first | (exact absurd z53 (by decide)) | (exact absurd (by decide) z53) | (exact absurd rfl z53) | (exact absurd z53 (of_nn (by omega))) | (exact absurd (of_np (by omega)) z53) | omega
        · intro z53
          refine b_194_56 _ _ _ ?_
          exact K3 hb bb (h.an F1 ⟨(show bb.I 505 59 = _ from x59), h16, fun j hj => (hI j hj).cy (congrFun (xI 551 (by decide)) j) (congrFun (xI 552 (by decide)) j) (congrFun (xI 553 (by decide)) j) (congrFun (xI 554 (by decide)) j) (congrFun (congrFun xJ 555) j)⟩ ⟨x73, fun _ => x75, fun q => absurd q (show ¬ (0 : Nat) = 1 by decide), (show (0 : Nat) ≤ 2 by decide), (show (0 : Nat) ≤ 5001 by decide)⟩ ⟨u, pl, hBy.to xB xD, (congrFun xD 0).trans hD0, (congrFun xD 1).trans hD1, hr1, hr2, hr3⟩) x0
      · refine b_194_53 _ _ _ ?_ ?_
        · intro z53
          refine b_194_58 _ _ _ (by first | (exact hd_9) | assumption) (by omega) (by rw [mL_len]; decide) (by first | assumption | (exact mL_get (by decide)) | (rw [mL_len]; decide) | (simp only [mL_set]; exact mL_get (by decide)) | (simp only [mL_set, mL_len]; decide) | (exact va_eq) | (exact (va_ne (by omega)).trans (by assumption)) | (exact (va_ne (by omega)).trans va_eq) | (exact (va_ne (by omega)).trans ((va_ne (by omega)).trans (by assumption))) | (exact (va_ne (by omega)).trans ((va_ne (by omega)).trans ((va_ne (by omega)).trans (by assumption)))) | rfl | (exact Or.inl rfl) | (exact Or.inr rfl) | omega | (exact Nat.le_of_ble_eq_true rfl) | decide | (exact ⟨by decide, rfl, by decide⟩)) (by first | (exact (congrFun (gw_X (by decide)) _).trans (hd_9)) | assumption) (by omega) (by exact mL_get (by decide)) ?_
          refine hw_W (gw_X (by decide)) ?_
          rw [show (bb.sX 57 0).I 505 59 = Int32.ofNat many from x59]
          refine g_ka (b := bb.sX 57 0) hn h16 (fun b1 l3 f1 h1 => fin hb b1 l3 _ f1 h1) many 0 _ (by omega) gCy.r0 (fun i hi => absurd hi (Nat.not_lt_zero i))
        · intro z53
          first | (exact absurd z53 (by decide)) | (exact absurd (by decide) z53) | (exact absurd rfl z53) | (exact absurd z53 (of_nn (by omega))) | (exact absurd (of_np (by omega)) z53) | omega
    · intro z22
      first | (exact absurd z22 (by decide)) | (exact absurd (by decide) z22) | (exact absurd rfl z22) | (exact absurd z22 (of_nn (by omega))) | (exact absurd (of_np (by omega)) z22) | omega
  · intro z0
    exact absurd n4 z0
end
