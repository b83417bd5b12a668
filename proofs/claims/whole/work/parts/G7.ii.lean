/-! the law: a call, inputs, wallets, state -/
section
variable {d L r n sl i : Nat} {xs : Nat → Int32} {F : Nat → mi_C} {Q : (Option Value ⊕ Nat) → mi_H → Prop} {o6 o7 o8 : Option Value}
theorem ml_choose (hS : lS L xs r n sl F) (hr : r + 1 ≤ 3072) (hi : i + 5 < L) (hL : L ≤ 3072) (K : ∀ n' sl' F' o6 o7 o8, lS L xs (r + 1) n' sl' F' → mi_W (d + 600) 204 1165 [some (.ref mi_SC), some (.ref 0), some (.ref 505), some (.ref 574), some (.int (Int32.ofNat i)), o6, o7, o8] [] (n', sl', F') Q) : mi_W (d + 600) 204 520 [some (.ref mi_SC), some (.ref 0), some (.ref 505), some (.ref 574), some (.int (Int32.ofNat i)), o6, o7, o8] [] (n, sl, F) Q := by
  obtain ⟨a, b, g, fd, oc, wr, w, many, ins, ev, re, con, rfl, hC, hG, hP, hO, hg⟩ := hS
  have hn := hG.2.2.2.2.2.2.2.1.nn
  have hn5 := hn.1
  have hN : n < 601000 ∧ sl ≤ 7293000 := hn.2
  have hsc := lx_sc (a := a) hg hG
  have q0 : hd b (hc a g) 0 = _ := lx_0
  obtain ⟨go, ho⟩ := hg.2.2.1
  have hD := hG.D0 (Nat.le_refl n)
  have hGu := hG.up (Nat.le_succ r) hr
  have hGt := hG.th hr
  have hix1 := lx_ix (i := i) (k := 1) (kk := 1) (by omega) hL (by decide) rfl
  have hix2 := lx_ix (i := i) (k := 2) (kk := 2) (by omega) hL (by decide) rfl
  have hix3 := lx_ix (i := i) (k := 3) (kk := 3) (by omega) hL (by decide) rfl
  have hix4 := lx_ix (i := i) (k := 4) (kk := 4) (by omega) hL (by decide) rfl
  have hix5 := lx_ix (i := i) (k := 5) (kk := 5) (by omega) hL (by decide) rfl
  refine b_204_520 _ _ _ _ _ _ _ _ _ _ _ _ (by assumption) (Or.inr rfl) hix1 (by assumption) (Or.inr rfl) hix2 (by assumption) (Or.inr rfl) hix3 ?_
  refine b_66_0 _ _ _ (by assumption) (by omega) ?_
  rw [← hc_hd]
  refine cq_choose hn5 hN hC (fun h1 => ?_) (fun h1 m1 => ?_) (fun i1 hi1 e1 h1 m1 a1 hC1 => ?_)
  · refine lx_ch (hp := 14) (by decide +kernel) hD hn5 ?_
    refine b_66_14 _ _ _ ?_
    refine lx_thr hg hn5 hN.1 (fun g1 go1 hg1 ho1 => ?_)
    have hG1 := hGt
    have hsc1 := lx_sc (a := a) hg1 hG1
    have q5 : hd b (hc a g1) 505 = _ := hd_9
    refine b_204_553 _ _ _ _ _ _ _ _ _ _ _ _ (by assumption) (Or.inr rfl) hix1 (by assumption) (Or.inr rfl) hix2 (by assumption) (Or.inr rfl) hix3 (by assumption) (by omega) ?_
    refine gq_choose hG1 (fun h2 b2 hG2 z2 => ?_) (fun h2 => absurd h2 h1) (fun i2 hi2 e2 h2 => absurd h2 h1)
    exact lt_choose (by omega) z2 (lx_ou ho1) (fun e => absurd e (by decide)) (fun o6 o7 o8 => K _ _ _ o6 o7 o8 ⟨a, b2, g1, _, _, _, _, _, _, _, _, _, rfl, hC, hG2, hP, hO, hg1⟩)
  · refine lx_ch (hp := 18) (by decide +kernel) hD hn5 ?_
    refine b_66_18 _ _ _ ?_
    refine lx_thr hg hn5 hN.1 (fun g1 go1 hg1 ho1 => ?_)
    have hG1 := hGt
    have hsc1 := lx_sc (a := a) hg1 hG1
    have q5 : hd b (hc a g1) 505 = _ := hd_9
    refine b_204_553 _ _ _ _ _ _ _ _ _ _ _ _ (by assumption) (Or.inr rfl) hix1 (by assumption) (Or.inr rfl) hix2 (by assumption) (Or.inr rfl) hix3 (by assumption) (by omega) ?_
    refine gq_choose hG1 (fun h2 => absurd h1 h2) (fun h2 m2 b2 hG2 z2 => ?_) (fun i2 hi2 e2 h2 m2 => absurd m1 (by omega))
    exact lt_choose (by omega) z2 (lx_ou ho1) (fun e => absurd e (by decide)) (fun o6 o7 o8 => K _ _ _ o6 o7 o8 ⟨a, b2, g1, _, _, _, _, _, _, _, _, _, rfl, hC, hG2, hP, hO, hg1⟩)
  · rw [hc_hd]
    have ho' : hd b (hc a1 g) 574 = _ := lx_ou ho
    refine b_66_9 _ _ _ _ _ _ (by assumption) (by omega) (by exact ⟨by decide, rfl, by decide⟩) ?_
    refine b_66_22 _ _ _ ?_
    refine lx_ret hg rfl (fun g1 go1 hg1 ho1 hv1 => ?_)
    have hG1 := hGu
    have hsc1 := lx_sc (a := a1) hg1 hG1
    have q5 : hd b (hc a1 g1) 505 = _ := hd_9
    refine b_204_553 _ _ _ _ _ _ _ _ _ _ _ _ (by assumption) (Or.inr rfl) hix1 (by assumption) (Or.inr rfl) hix2 (by assumption) (Or.inr rfl) hix3 (by assumption) (by omega) ?_
    refine gq_choose hG1 (fun h2 => absurd h1 h2) (fun h2 m2 => absurd m2 (by omega)) (fun i2 hi2 e2 h2 m2 b2 hG2 z2 => ?_)
    obtain rfl := of_nj e1 e2 (by omega) (by omega)
    exact lt_choose (by omega) z2 (lx_ou ho1) (fun _ => hv1) (fun o6 o7 o8 => K _ _ _ o6 o7 o8 ⟨a1, b2, g1, _, _, _, _, _, _, _, _, _, rfl, hC1, hG2, hP, hO, hg1⟩)
theorem ml_deposit (hS : lS L xs r n sl F) (hr : r + 1 ≤ 3072) (hi : i + 5 < L) (hL : L ≤ 3072) (K : ∀ n' sl' F' o6 o7 o8, lS L xs (r + 1) n' sl' F' → mi_W (d + 600) 204 1165 [some (.ref mi_SC), some (.ref 0), some (.ref 505), some (.ref 574), some (.int (Int32.ofNat i)), o6, o7, o8] [] (n', sl', F') Q) : mi_W (d + 600) 204 396 [some (.ref mi_SC), some (.ref 0), some (.ref 505), some (.ref 574), some (.int (Int32.ofNat i)), o6, o7, o8] [] (n, sl, F) Q := by
  obtain ⟨a, b, g, fd, oc, wr, w, many, ins, ev, re, con, rfl, hC, hG, hP, hO, hg⟩ := hS
  have hn := hG.2.2.2.2.2.2.2.1.nn
  have hn5 := hn.1
  have hN : n < 601000 ∧ sl ≤ 7293000 := hn.2
  have hsc := lx_sc (a := a) hg hG
  have q0 : hd b (hc a g) 0 = _ := lx_0
  obtain ⟨go, ho⟩ := hg.2.2.1
  have hD := hG.D0 (Nat.le_refl n)
  have hGu := hG.up (Nat.le_succ r) hr
  have hGt := hG.th hr
  have hix1 := lx_ix (i := i) (k := 1) (kk := 1) (by omega) hL (by decide) rfl
  have hix2 := lx_ix (i := i) (k := 2) (kk := 2) (by omega) hL (by decide) rfl
  have hix3 := lx_ix (i := i) (k := 3) (kk := 3) (by omega) hL (by decide) rfl
  have hix4 := lx_ix (i := i) (k := 4) (kk := 4) (by omega) hL (by decide) rfl
  have hix5 := lx_ix (i := i) (k := 5) (kk := 5) (by omega) hL (by decide) rfl
  refine b_204_396 _ _ _ _ _ _ _ _ _ _ _ _ _ _ _ _ _ _ (by assumption) (Or.inr rfl) hix1 (by assumption) (Or.inr rfl) hix2 (by assumption) (Or.inr rfl) hix3 (by assumption) (Or.inr rfl) hix4 (by assumption) (Or.inr rfl) hix5 ?_
  refine b_62_0 _ _ _ (by assumption) (by omega) ?_
  rw [← hc_hd]
  refine cq_deposit hn5 hN hC (fun h1 => ?_) (fun h1 m1 => ?_) (fun i1 j1 k1 hi1 hj1 hk1 ex1 ey1 ez1 h1 m1 a1 hC1 => ?_)
  · refine lx_ch (hp := 17) (by decide +kernel) hD hn5 ?_
    refine b_62_17 _ _ _ ?_
    refine lx_thr hg hn5 hN.1 (fun g1 go1 hg1 ho1 => ?_)
    have hG1 := hGt
    have hsc1 := lx_sc (a := a) hg1 hG1
    have q5 : hd b (hc a g1) 505 = _ := hd_9
    refine b_204_441 _ _ _ _ _ _ _ _ _ _ _ _ _ _ _ _ _ _ (by assumption) (Or.inr rfl) hix1 (by assumption) (Or.inr rfl) hix2 (by assumption) (Or.inr rfl) hix3 (by assumption) (Or.inr rfl) hix4 (by assumption) (Or.inr rfl) hix5 (by assumption) (by omega) ?_
    refine gq_deposit hG1 (fun h2 b2 hG2 z2 => ?_) (fun h2 => absurd h2 h1) (fun i2 j2 k2 hi2 hj2 hk2 ex2 ey2 ez2 h2 => absurd h2 h1)
    exact lt_deposit (by omega) z2 (lx_ou ho1) (fun e => absurd e (by decide)) (fun o6 o7 o8 => K _ _ _ o6 o7 o8 ⟨a, b2, g1, _, _, _, _, _, _, _, _, _, rfl, hC, hG2, hP, hO, hg1⟩)
  · refine lx_ch (hp := 21) (by decide +kernel) hD hn5 ?_
    refine b_62_21 _ _ _ ?_
    refine lx_thr hg hn5 hN.1 (fun g1 go1 hg1 ho1 => ?_)
    have hG1 := hGt
    have hsc1 := lx_sc (a := a) hg1 hG1
    have q5 : hd b (hc a g1) 505 = _ := hd_9
    refine b_204_441 _ _ _ _ _ _ _ _ _ _ _ _ _ _ _ _ _ _ (by assumption) (Or.inr rfl) hix1 (by assumption) (Or.inr rfl) hix2 (by assumption) (Or.inr rfl) hix3 (by assumption) (Or.inr rfl) hix4 (by assumption) (Or.inr rfl) hix5 (by assumption) (by omega) ?_
    refine gq_deposit hG1 (fun h2 => absurd h1 h2) (fun h2 m2 b2 hG2 z2 => ?_) (fun i2 j2 k2 hi2 hj2 hk2 ex2 ey2 ez2 h2 m2 => absurd m1 (by omega))
    exact lt_deposit (by omega) z2 (lx_ou ho1) (fun e => absurd e (by decide)) (fun o6 o7 o8 => K _ _ _ o6 o7 o8 ⟨a, b2, g1, _, _, _, _, _, _, _, _, _, rfl, hC, hG2, hP, hO, hg1⟩)
  · rw [hc_hd]
    have ho' : hd b (hc a1 g) 574 = _ := lx_ou ho
    refine b_62_12 _ _ _ _ _ _ (by assumption) (by omega) (by exact ⟨by decide, rfl, by decide⟩) ?_
    refine b_62_25 _ _ _ ?_
    refine lx_ret hg rfl (fun g1 go1 hg1 ho1 hv1 => ?_)
    have hG1 := hGu
    have hsc1 := lx_sc (a := a1) hg1 hG1
    have q5 : hd b (hc a1 g1) 505 = _ := hd_9
    refine b_204_441 _ _ _ _ _ _ _ _ _ _ _ _ _ _ _ _ _ _ (by assumption) (Or.inr rfl) hix1 (by assumption) (Or.inr rfl) hix2 (by assumption) (Or.inr rfl) hix3 (by assumption) (Or.inr rfl) hix4 (by assumption) (Or.inr rfl) hix5 (by assumption) (by omega) ?_
    refine gq_deposit hG1 (fun h2 => absurd h1 h2) (fun h2 m2 => absurd m2 (by omega)) (fun i2 j2 k2 hi2 hj2 hk2 ex2 ey2 ez2 h2 m2 b2 hG2 z2 => ?_)
    obtain rfl := of_nj ex1 ex2 (by omega) (by omega)
    obtain rfl := of_nj ey1 ey2 (by omega) (by omega)
    obtain rfl := of_nj ez1 ez2 (by omega) (by omega)
    exact lt_deposit (by omega) z2 (lx_ou ho1) (fun _ => hv1) (fun o6 o7 o8 => K _ _ _ o6 o7 o8 ⟨a1, b2, g1, _, _, _, _, _, _, _, _, _, rfl, hC1, hG2, hP, hO, hg1⟩)
theorem ml_wallet (hS : lS L xs r n sl F) (hr : r + 1 ≤ 3072) (hi : i + 5 < L) (hL : L ≤ 3072) (K : ∀ n' sl' F' o6 o7 o8, lS L xs (r + 1) n' sl' F' → mi_W (d + 600) 204 1165 [some (.ref mi_SC), some (.ref 0), some (.ref 505), some (.ref 574), some (.int (Int32.ofNat i)), o6, o7, o8] [] (n', sl', F') Q) : mi_W (d + 600) 204 285 [some (.ref mi_SC), some (.ref 0), some (.ref 505), some (.ref 574), some (.int (Int32.ofNat i)), o6, o7, o8] [] (n, sl, F) Q := by
  obtain ⟨a, b, g, fd, oc, wr, w, many, ins, ev, re, con, rfl, hC, hG, hP, hO, hg⟩ := hS
  have hn := hG.2.2.2.2.2.2.2.1.nn
  have hn5 := hn.1
  have hN : n < 601000 ∧ sl ≤ 7293000 := hn.2
  have hsc := lx_sc (a := a) hg hG
  have q0 : hd b (hc a g) 0 = _ := lx_0
  obtain ⟨go, ho⟩ := hg.2.2.1
  have hD := hG.D0 (Nat.le_refl n)
  have hGu := hG.up (Nat.le_succ r) hr
  have hGt := hG.th hr
  have hix1 := lx_ix (i := i) (k := 1) (kk := 1) (by omega) hL (by decide) rfl
  have hix2 := lx_ix (i := i) (k := 2) (kk := 2) (by omega) hL (by decide) rfl
  have hix3 := lx_ix (i := i) (k := 3) (kk := 3) (by omega) hL (by decide) rfl
  have hix4 := lx_ix (i := i) (k := 4) (kk := 4) (by omega) hL (by decide) rfl
  have hix5 := lx_ix (i := i) (k := 5) (kk := 5) (by omega) hL (by decide) rfl
  refine b_204_285 _ _ _ _ _ _ _ _ _ _ _ _ _ _ _ (by assumption) (Or.inr rfl) hix1 (by assumption) (Or.inr rfl) hix2 (by assumption) (Or.inr rfl) hix3 (by assumption) (Or.inr rfl) hix4 ?_
  refine b_58_0 _ _ _ (by assumption) (by omega) ?_
  rw [← hc_hd]
  refine cq_wallet hn5 hN hC (fun h1 => ?_) (fun i1 j1 hi1 hj1 ex1 ey1 hp1 hw1 a1 hC1 => ?_)
  · refine lx_ch (hp := 14) (by decide +kernel) hD hn5 ?_
    refine b_58_14 _ _ _ ?_
    refine lx_thr hg hn5 hN.1 (fun g1 go1 hg1 ho1 => ?_)
    have hG1 := hGt
    have hsc1 := lx_sc (a := a) hg1 hG1
    have q5 : hd b (hc a g1) 505 = _ := hd_9
    refine b_204_324 _ _ _ _ _ _ _ _ _ _ _ _ _ _ _ (by assumption) (Or.inr rfl) hix1 (by assumption) (Or.inr rfl) hix2 (by assumption) (Or.inr rfl) hix3 (by assumption) (Or.inr rfl) hix4 (by assumption) (by omega) ?_
    refine gq_wallet hG1 (fun h2 b2 hG2 z2 => ?_) (fun i2 j2 hi2 hj2 ex2 ey2 hv2 hw2 => absurd (lv_V hi2 hj2 ex2 ey2 hv2 hw2) h1)
    exact lt_wallet (by omega) z2 (lx_ou ho1) (fun e => absurd e (by decide)) (fun o6 o7 o8 => K _ _ _ o6 o7 o8 ⟨a, b2, g1, _, _, _, _, _, _, _, _, _, rfl, hC, hG2, hP, hO, hg1⟩)
  · rw [hc_hd]
    have ho' : hd b (hc a1 g) 574 = _ := lx_ou ho
    refine b_58_10 _ _ _ _ _ _ (by assumption) (by omega) (by exact ⟨by decide, rfl, by decide⟩) ?_
    refine b_58_18 _ _ _ ?_
    refine lx_ret hg rfl (fun g1 go1 hg1 ho1 hv1 => ?_)
    have hG1 := hGu
    have hsc1 := lx_sc (a := a1) hg1 hG1
    have q5 : hd b (hc a1 g1) 505 = _ := hd_9
    refine b_204_324 _ _ _ _ _ _ _ _ _ _ _ _ _ _ _ (by assumption) (Or.inr rfl) hix1 (by assumption) (Or.inr rfl) hix2 (by assumption) (Or.inr rfl) hix3 (by assumption) (Or.inr rfl) hix4 (by assumption) (by omega) ?_
    refine gq_wallet hG1 (fun h2 => absurd (lv_V hi1 hj1 ex1 ey1 hp1 hw1) h2) (fun i2 j2 hi2 hj2 ex2 ey2 hv2 hw2 b2 hG2 z2 => ?_)
    obtain rfl := of_nj ex1 ex2 (by omega) (by omega)
    obtain rfl := of_nj ey1 ey2 (by omega) (by omega)
    exact lt_wallet (by omega) z2 (lx_ou ho1) (fun _ => hv1) (fun o6 o7 o8 => K _ _ _ o6 o7 o8 ⟨a1, b2, g1, _, _, _, _, _, _, _, _, _, rfl, hC1, hG2, hP.wal hv2 hw2, hO, hg1⟩)
theorem ml_state (hS : lS L xs r n sl F) (hr : r + 1 ≤ 3072) (hi : i + 5 < L) (hL : L ≤ 3072) (K : ∀ n' sl' F' o6 o7 o8, lS L xs (r + 1) n' sl' F' → mi_W (d + 600) 204 1165 [some (.ref mi_SC), some (.ref 0), some (.ref 505), some (.ref 574), some (.int (Int32.ofNat i)), o6, o7, o8] [] (n', sl', F') Q) : mi_W (d + 600) 204 919 [some (.ref mi_SC), some (.ref 0), some (.ref 505), some (.ref 574), some (.int (Int32.ofNat i)), o6, o7, o8] [] (n, sl, F) Q := by
  obtain ⟨a, b, g, fd, oc, wr, w, many, ins, ev, re, con, rfl, hC, hG, hP, hO, hg⟩ := hS
  have hn := hG.2.2.2.2.2.2.2.1.nn
  have hn5 := hn.1
  have hN : n < 601000 ∧ sl ≤ 7293000 := hn.2
  have hsc := lx_sc (a := a) hg hG
  have q0 : hd b (hc a g) 0 = _ := lx_0
  obtain ⟨go, ho⟩ := hg.2.2.1
  have hD := hG.D0 (Nat.le_refl n)
  have hGu := hG.up (Nat.le_succ r) hr
  have hGt := hG.th hr
  have hix1 := lx_ix (i := i) (k := 1) (kk := 1) (by omega) hL (by decide) rfl
  have hix2 := lx_ix (i := i) (k := 2) (kk := 2) (by omega) hL (by decide) rfl
  have hix3 := lx_ix (i := i) (k := 3) (kk := 3) (by omega) hL (by decide) rfl
  have hix4 := lx_ix (i := i) (k := 4) (kk := 4) (by omega) hL (by decide) rfl
  have hix5 := lx_ix (i := i) (k := 5) (kk := 5) (by omega) hL (by decide) rfl
  refine b_204_919 _ _ _ _ _ _ _ _ _ _ _ _ (by assumption) (Or.inr rfl) hix1 (by assumption) (Or.inr rfl) hix2 (by assumption) (Or.inr rfl) hix3 ?_
  refine b_117_0 _ _ _ (by assumption) (by omega) ?_
  rw [← hc_hd]
  refine cq_state hn5 hN hC (fun h1 => ?_) (fun i1 j1 k1 hi1 hj1 hk1 ex1 ey1 ez1 n1 c1 => ?_) (fun i1 j1 k1 hi1 hj1 hk1 ex1 ey1 ez1 o1 => ?_)
  · refine lx_ch (hp := 14) (by decide +kernel) hD hn5 ?_
    refine b_117_14 _ _ _ ?_
    refine lx_thr hg hn5 hN.1 (fun g1 go1 hg1 ho1 => ?_)
    have hG1 := hGt
    have hsc1 := lx_sc (a := a) hg1 hG1
    have q5 : hd b (hc a g1) 505 = _ := hd_9
    refine b_204_942 _ _ _ _ _ _ _ _ _ _ _ _ (by assumption) (Or.inr rfl) hix1 (by assumption) (Or.inr rfl) hix2 (by assumption) (Or.inr rfl) hix3 (by assumption) (by omega) ?_
    refine gq_state hG1 (fun h2 b2 hG2 z2 => ?_) (fun i2 j2 k2 hi2 hj2 hk2 ex2 ey2 ez2 => absurd ⟨⟨i2, hi2, ex2⟩, ⟨j2, hj2, ey2⟩, ⟨k2, hk2, ez2⟩⟩ h1) (fun i2 j2 k2 hi2 hj2 hk2 ex2 ey2 ez2 => absurd ⟨⟨i2, hi2, ex2⟩, ⟨j2, hj2, ey2⟩, ⟨k2, hk2, ez2⟩⟩ h1)
    exact lt_state (by omega) z2 (lx_ou ho1) (fun e => absurd e (by decide)) (fun o6 o7 o8 => K _ _ _ o6 o7 o8 ⟨a, b2, g1, _, _, _, _, _, _, _, _, _, rfl, hC, hG2, hP, hO, hg1⟩)
  · refine lx_ch (hp := 18) (by decide +kernel) hD hn5 ?_
    refine b_117_18 _ _ _ ?_
    refine lx_thr hg hn5 hN.1 (fun g1 go1 hg1 ho1 => ?_)
    have hG1 := hGt
    have hsc1 := lx_sc (a := a) hg1 hG1
    have q5 : hd b (hc a g1) 505 = _ := hd_9
    refine b_204_942 _ _ _ _ _ _ _ _ _ _ _ _ (by assumption) (Or.inr rfl) hix1 (by assumption) (Or.inr rfl) hix2 (by assumption) (Or.inr rfl) hix3 (by assumption) (by omega) ?_
    refine gq_state hG1 (fun h2 => absurd ⟨⟨i1, hi1, ex1⟩, ⟨j1, hj1, ey1⟩, ⟨k1, hk1, ez1⟩⟩ h2) (fun i2 j2 k2 hi2 hj2 hk2 ex2 ey2 ez2 n2 c2 b2 hG2 z2 => ?_) (fun i2 j2 k2 hi2 hj2 hk2 ex2 ey2 ez2 o2 => absurd o2 (fun q => q.elim (fun e => n1 (by have := of_nj ex1 ex2 (by omega) (by omega); omega)) (fun q => q c1)))
    exact lt_state (by omega) z2 (lx_ou ho1) (fun e => absurd e (by decide)) (fun o6 o7 o8 => K _ _ _ o6 o7 o8 ⟨a, b2, g1, _, _, _, _, _, _, _, _, _, rfl, hC, hG2, hP, hO, hg1⟩)
  · rw [hc_hd]
    have ho' : hd b (hc a g) 574 = _ := lx_ou ho
    refine b_117_10 _ _ _ _ _ _ (by assumption) (by omega) (by exact ⟨by decide, rfl, by decide⟩) ?_
    refine b_117_22 _ _ _ ?_
    refine lx_ret hg rfl (fun g1 go1 hg1 ho1 hv1 => ?_)
    have hG1 := hGu
    have hsc1 := lx_sc (a := a) hg1 hG1
    have q5 : hd b (hc a g1) 505 = _ := hd_9
    refine b_204_942 _ _ _ _ _ _ _ _ _ _ _ _ (by assumption) (Or.inr rfl) hix1 (by assumption) (Or.inr rfl) hix2 (by assumption) (Or.inr rfl) hix3 (by assumption) (by omega) ?_
    refine gq_state hG1 (fun h2 => absurd ⟨⟨i1, hi1, ex1⟩, ⟨j1, hj1, ey1⟩, ⟨k1, hk1, ez1⟩⟩ h2) (fun i2 j2 k2 hi2 hj2 hk2 ex2 ey2 ez2 n2 c2 => absurd o1 (fun q => q.elim (fun e => n2 (by have := of_nj ex1 ex2 (by omega) (by omega); omega)) (fun q => q c2))) (fun i2 j2 k2 hi2 hj2 hk2 ex2 ey2 ez2 o2 b2 hG2 z2 => ?_)
    obtain rfl := of_nj ex1 ex2 (by omega) (by omega)
    obtain rfl := of_nj ey1 ey2 (by omega) (by omega)
    obtain rfl := of_nj ez1 ez2 (by omega) (by omega)
    exact lt_state (by omega) z2 (lx_ou ho1) (fun _ => hv1) (fun o6 o7 o8 => K _ _ _ o6 o7 o8 ⟨a, b2, g1, _, _, _, _, _, _, _, _, _, rfl, hC, hG2, hP, hO, hg1⟩)
end
