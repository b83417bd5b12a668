/-! the law: a call, what was told -/
section
variable {d L r n sl i : Nat} {xs : Nat → Int32} {F : Nat → mi_C} {Q : (Option Value ⊕ Nat) → mi_H → Prop} {o6 o7 o8 : Option Value}
theorem ml_paid (hS : lS L xs r n sl F) (hr : r + 1 ≤ 3072) (hi : i + 5 < L) (hL : L ≤ 3072) (K : ∀ n' sl' F' o6 o7 o8, lS L xs (r + 1) n' sl' F' → mi_W (d + 600) 204 1165 [some (.ref mi_SC), some (.ref 0), some (.ref 505), some (.ref 574), some (.int (Int32.ofNat i)), o6, o7, o8] [] (n', sl', F') Q) : mi_W (d + 600) 204 864 [some (.ref mi_SC), some (.ref 0), some (.ref 505), some (.ref 574), some (.int (Int32.ofNat i)), o6, o7, o8] [] (n, sl, F) Q := by
  obtain ⟨a, b, g, fd, oc, wr, w, many, ins, ev, re, con, rfl, hC, hG, hP, hO, hg⟩ := hS
  have hn := hG.2.2.2.2.2.2.2.1.nn
  have hn5 := hn.1
  have hN : n < 601000 ∧ sl ≤ 7293000 := hn.2
  have hsc := lx_sc (a := a) hg hG
  have q0 : hd b (hc a g) 0 = _ := lx_0
  obtain ⟨go, ho⟩ := hg.2.2.1
  have hD := hG.D0 (Nat.le_refl n)
  have hGu := hG.up (Nat.le_succ r) hr
  have hGt := hG.th hr
  have hix1 := lx_ix (i := i) (k := 1) (kk := 1) (by omega) hL (by decide) rfl
  have hix2 := lx_ix (i := i) (k := 2) (kk := 2) (by omega) hL (by decide) rfl
  have hix3 := lx_ix (i := i) (k := 3) (kk := 3) (by omega) hL (by decide) rfl
  have hix4 := lx_ix (i := i) (k := 4) (kk := 4) (by omega) hL (by decide) rfl
  have hix5 := lx_ix (i := i) (k := 5) (kk := 5) (by omega) hL (by decide) rfl
  refine b_204_864 _ _ _ _ _ _ (by assumption) (Or.inr rfl) hix1 ?_
  refine b_115_0 _ _ _ (by assumption) (by omega) ?_
  rw [← hc_hd]
  refine cq_paid hn5 hN hC (fun h1 => ?_) (fun j1 hj1 e1 => ?_)
  · refine lx_ch (hp := 11) (by decide +kernel) hD hn5 ?_
    refine b_115_11 _ _ _ ?_
    refine lx_thr hg hn5 hN.1 (fun g1 go1 hg1 ho1 => ?_)
    have hG1 := hGt
    have hsc1 := lx_sc (a := a) hg1 hG1
    have q5 : hd b (hc a g1) 505 = _ := hd_9
    refine b_204_875 _ _ _ _ _ _ (by assumption) (Or.inr rfl) hix1 (by assumption) (by omega) ?_
    refine gq_paid hG1 (fun h2 b2 hG2 z2 => ?_) (fun j2 hj2 e2 => absurd ⟨j2, hj2, e2⟩ h1)
    exact lt_paid (by omega) z2 (lx_ou ho1) (fun e => absurd e (by decide)) (fun o6 o7 o8 => K _ _ _ o6 o7 o8 ⟨a, b2, g1, _, _, _, _, _, _, _, _, _, rfl, hC, hG2, hP, hO, hg1⟩)
  · rw [hc_hd]
    have ho' : hd b (hc a g) 574 = _ := lx_ou ho
    refine b_115_7 _ _ _ _ _ _ (by assumption) (by omega) (by exact ⟨by decide, rfl, by decide⟩) ?_
    refine b_115_14 _ _ _ ?_
    refine lx_ret hg rfl (fun g1 go1 hg1 ho1 hv1 => ?_)
    have hG1 := hGu
    have hsc1 := lx_sc (a := a) hg1 hG1
    have q5 : hd b (hc a g1) 505 = _ := hd_9
    refine b_204_875 _ _ _ _ _ _ (by assumption) (Or.inr rfl) hix1 (by assumption) (by omega) ?_
    refine gq_paid hG1 (fun h2 => absurd ⟨j1, hj1, e1⟩ h2) (fun j2 hj2 e2 b2 hG2 z2 => ?_)
    have hps := hC.2.2.2.2.1.2.2.1
    obtain rfl := of_nj e1 e2 (by omega) (by omega)
    exact lt_paid (by omega) z2 (lx_ou ho1) (fun _ => hv1) (fun o6 o7 o8 => K _ _ _ o6 o7 o8 ⟨a, b2, g1, _, _, _, _, _, _, _, _, _, rfl, hC, hG2, hP, hO, hg1⟩)
theorem ml_told (hS : lS L xs r n sl F) (hr : r + 1 ≤ 3072) (hi : i + 5 < L) (hL : L ≤ 3072) (K : ∀ n' sl' F' o6 o7 o8, lS L xs (r + 1) n' sl' F' → mi_W (d + 600) 204 1165 [some (.ref mi_SC), some (.ref 0), some (.ref 505), some (.ref 574), some (.int (Int32.ofNat i)), o6, o7, o8] [] (n', sl', F') Q) : mi_W (d + 600) 204 796 [some (.ref mi_SC), some (.ref 0), some (.ref 505), some (.ref 574), some (.int (Int32.ofNat i)), o6, o7, o8] [] (n, sl, F) Q := by
  obtain ⟨a, b, g, fd, oc, wr, w, many, ins, ev, re, con, rfl, hC, hG, hP, hO, hg⟩ := hS
  have hn := hG.2.2.2.2.2.2.2.1.nn
  have hn5 := hn.1
  have hN : n < 601000 ∧ sl ≤ 7293000 := hn.2
  have hsc := lx_sc (a := a) hg hG
  have q0 : hd b (hc a g) 0 = _ := lx_0
  obtain ⟨go, ho⟩ := hg.2.2.1
  have hD := hG.D0 (Nat.le_refl n)
  have hGu := hG.up (Nat.le_succ r) hr
  have hGt := hG.th hr
  have hix1 := lx_ix (i := i) (k := 1) (kk := 1) (by omega) hL (by decide) rfl
  have hix2 := lx_ix (i := i) (k := 2) (kk := 2) (by omega) hL (by decide) rfl
  have hix3 := lx_ix (i := i) (k := 3) (kk := 3) (by omega) hL (by decide) rfl
  have hix4 := lx_ix (i := i) (k := 4) (kk := 4) (by omega) hL (by decide) rfl
  have hix5 := lx_ix (i := i) (k := 5) (kk := 5) (by omega) hL (by decide) rfl
  refine b_204_796 _ _ _ _ _ _ _ _ _ (by assumption) (Or.inr rfl) hix1 (by assumption) (Or.inr rfl) hix2 ?_
  refine b_113_0 _ _ _ (by assumption) (by omega) ?_
  rw [← hc_hd]
  refine cq_told hn5 hN hC (fun h1 => ?_) (fun i1 hi1 ex1 h1 => ?_) (fun i1 j1 hi1 ex1 hj1 ey1 => ?_)
  · refine lx_ch (hp := 13) (by decide +kernel) hD hn5 ?_
    refine b_113_13 _ _ _ ?_
    refine lx_thr hg hn5 hN.1 (fun g1 go1 hg1 ho1 => ?_)
    have hG1 := hGt
    have hsc1 := lx_sc (a := a) hg1 hG1
    have q5 : hd b (hc a g1) 505 = _ := hd_9
    refine b_204_813 _ _ _ _ _ _ _ _ _ (by assumption) (Or.inr rfl) hix1 (by assumption) (Or.inr rfl) hix2 (by assumption) (by omega) ?_
    refine gq_told hG1 (fun h2 b2 hG2 z2 => ?_) (fun i2 hi2 ex2 => absurd ⟨i2, hi2, ex2⟩ h1) (fun i2 j2 hi2 ex2 => absurd ⟨i2, hi2, ex2⟩ h1)
    exact lt_told (by omega) z2 (lx_ou ho1) (fun e => absurd e (by decide)) (fun o6 o7 o8 => K _ _ _ o6 o7 o8 ⟨a, b2, g1, _, _, _, _, _, _, _, _, _, rfl, hC, hG2, hP, hO, hg1⟩)
  · refine lx_ch (hp := 17) (by decide +kernel) hD hn5 ?_
    refine b_113_17 _ _ _ ?_
    refine lx_thr hg hn5 hN.1 (fun g1 go1 hg1 ho1 => ?_)
    have hG1 := hGt
    have hsc1 := lx_sc (a := a) hg1 hG1
    have q5 : hd b (hc a g1) 505 = _ := hd_9
    refine b_204_813 _ _ _ _ _ _ _ _ _ (by assumption) (Or.inr rfl) hix1 (by assumption) (Or.inr rfl) hix2 (by assumption) (by omega) ?_
    refine gq_told hG1 (fun h2 => absurd ⟨i1, hi1, ex1⟩ h2) (fun i2 hi2 ex2 h2 b2 hG2 z2 => ?_) (fun i2 j2 hi2 ex2 hj2 ey2 => absurd ⟨j2, (of_nj ex2 ex1 (by omega) (by omega)) ▸ hj2, ey2⟩ h1)
    exact lt_told (by omega) z2 (lx_ou ho1) (fun e => absurd e (by decide)) (fun o6 o7 o8 => K _ _ _ o6 o7 o8 ⟨a, b2, g1, _, _, _, _, _, _, _, _, _, rfl, hC, hG2, hP, hO, hg1⟩)
  · rw [hc_hd]
    have ho' : hd b (hc a g) 574 = _ := lx_ou ho
    refine b_113_8 _ _ _ _ _ _ (by assumption) (by omega) (by exact ⟨by decide, rfl, by decide⟩) ?_
    refine b_113_21 _ _ _ ?_
    refine lx_ret hg rfl (fun g1 go1 hg1 ho1 hv1 => ?_)
    have hG1 := hGu
    have hsc1 := lx_sc (a := a) hg1 hG1
    have q5 : hd b (hc a g1) 505 = _ := hd_9
    refine b_204_813 _ _ _ _ _ _ _ _ _ (by assumption) (Or.inr rfl) hix1 (by assumption) (Or.inr rfl) hix2 (by assumption) (by omega) ?_
    refine gq_told hG1 (fun h2 => absurd ⟨i1, hi1, ex1⟩ h2) (fun i2 hi2 ex2 h2 => absurd ⟨j1, (of_nj ex1 ex2 (by omega) (by omega)) ▸ hj1, ey1⟩ h2) (fun i2 j2 hi2 ex2 hj2 ey2 b2 hG2 z2 => ?_)
    obtain rfl := of_nj ex1 ex2 (by omega) (by omega)
    have hcn := mx_cn_le (i := i1) hC.2.2.2.2.1
    obtain rfl := of_nj ey1 ey2 (by omega) (by omega)
    exact lt_told (by omega) z2 (lx_ou ho1) (fun _ => hv1) (fun o6 o7 o8 => K _ _ _ o6 o7 o8 ⟨a, b2, g1, _, _, _, _, _, _, _, _, _, rfl, hC, hG2, hP, hO, hg1⟩)
theorem ml_step (hS : lS L xs r n sl F) (hr : r + 1 ≤ 3072) (hi : i + 5 < L) (hL : L ≤ 3072) (K : ∀ n' sl' F' o6 o7 o8, lS L xs (r + 1) n' sl' F' → mi_W (d + 600) 204 1165 [some (.ref mi_SC), some (.ref 0), some (.ref 505), some (.ref 574), some (.int (Int32.ofNat i)), o6, o7, o8] [] (n', sl', F') Q) : mi_W (d + 600) 204 1042 [some (.ref mi_SC), some (.ref 0), some (.ref 505), some (.ref 574), some (.int (Int32.ofNat i)), o6, o7, o8] [] (n, sl, F) Q := by
  obtain ⟨a, b, g, fd, oc, wr, w, many, ins, ev, re, con, rfl, hC, hG, hP, hO, hg⟩ := hS
  have hn := hG.2.2.2.2.2.2.2.1.nn
  have hn5 := hn.1
  have hN : n < 601000 ∧ sl ≤ 7293000 := hn.2
  have hsc := lx_sc (a := a) hg hG
  have q0 : hd b (hc a g) 0 = _ := lx_0
  obtain ⟨go, ho⟩ := hg.2.2.1
  have hD := hG.D0 (Nat.le_refl n)
  have hGu := hG.up (Nat.le_succ r) hr
  have hGt := hG.th hr
  have hix1 := lx_ix (i := i) (k := 1) (kk := 1) (by omega) hL (by decide) rfl
  have hix2 := lx_ix (i := i) (k := 2) (kk := 2) (by omega) hL (by decide) rfl
  have hix3 := lx_ix (i := i) (k := 3) (kk := 3) (by omega) hL (by decide) rfl
  have hix4 := lx_ix (i := i) (k := 4) (kk := 4) (by omega) hL (by decide) rfl
  have hix5 := lx_ix (i := i) (k := 5) (kk := 5) (by omega) hL (by decide) rfl
  refine b_204_1042 _ _ _ _ _ _ _ _ _ (by assumption) (Or.inr rfl) hix1 (by assumption) (Or.inr rfl) hix2 ?_
  refine b_131_0 _ _ _ (by assumption) (by omega) ?_
  rw [← hc_hd]
  refine cq_step hn5 hN hC (fun h1 => ?_) (fun i1 hi1 ex1 h1 => ?_) (fun i1 j1 hi1 ex1 hj1 ey1 => ?_)
  · refine lx_ch (hp := 12) (by decide +kernel) hD hn5 ?_
    refine b_131_12 _ _ _ ?_
    refine lx_thr hg hn5 hN.1 (fun g1 go1 hg1 ho1 => ?_)
    have hG1 := hGt
    have hsc1 := lx_sc (a := a) hg1 hG1
    have q5 : hd b (hc a g1) 505 = _ := hd_9
    refine b_204_1059 _ _ _ _ _ _ _ _ _ (by assumption) (Or.inr rfl) hix1 (by assumption) (Or.inr rfl) hix2 (by assumption) (by omega) ?_
    refine gq_step hG1 (fun h2 b2 hG2 z2 => ?_) (fun i2 hi2 ex2 => absurd ⟨i2, hi2, ex2⟩ h1) (fun i2 j2 hi2 ex2 => absurd ⟨i2, hi2, ex2⟩ h1)
    exact lt_step (by omega) z2 (lx_ou ho1) (fun e => absurd e (by decide)) (fun o6 o7 o8 => K _ _ _ o6 o7 o8 ⟨a, b2, g1, _, _, _, _, _, _, _, _, _, rfl, hC, hG2, hP, hO, hg1⟩)
  · refine lx_ch (hp := 16) (by decide +kernel) hD hn5 ?_
    refine b_131_16 _ _ _ ?_
    refine lx_thr hg hn5 hN.1 (fun g1 go1 hg1 ho1 => ?_)
    have hG1 := hGt
    have hsc1 := lx_sc (a := a) hg1 hG1
    have q5 : hd b (hc a g1) 505 = _ := hd_9
    refine b_204_1059 _ _ _ _ _ _ _ _ _ (by assumption) (Or.inr rfl) hix1 (by assumption) (Or.inr rfl) hix2 (by assumption) (by omega) ?_
    refine gq_step hG1 (fun h2 => absurd ⟨i1, hi1, ex1⟩ h2) (fun i2 hi2 ex2 h2 b2 hG2 z2 => ?_) (fun i2 j2 hi2 ex2 hj2 ey2 => absurd ⟨j2, hj2, ey2⟩ h1)
    exact lt_step (by omega) z2 (lx_ou ho1) (fun e => absurd e (by decide)) (fun o6 o7 o8 => K _ _ _ o6 o7 o8 ⟨a, b2, g1, _, _, _, _, _, _, _, _, _, rfl, hC, hG2, hP, hO, hg1⟩)
  · rw [hc_hd]
    have ho' : hd b (hc a g) 574 = _ := lx_ou ho
    refine b_131_8 _ _ _ _ _ _ (by assumption) (by omega) (by exact ⟨by decide, rfl, by decide⟩) ?_
    refine b_131_20 _ _ _ ?_
    refine lx_ret hg rfl (fun g1 go1 hg1 ho1 hv1 => ?_)
    have hG1 := hGu
    have hsc1 := lx_sc (a := a) hg1 hG1
    have q5 : hd b (hc a g1) 505 = _ := hd_9
    refine b_204_1059 _ _ _ _ _ _ _ _ _ (by assumption) (Or.inr rfl) hix1 (by assumption) (Or.inr rfl) hix2 (by assumption) (by omega) ?_
    refine gq_step hG1 (fun h2 => absurd ⟨i1, hi1, ex1⟩ h2) (fun i2 hi2 ex2 h2 => absurd ⟨j1, hj1, ey1⟩ h2) (fun i2 j2 hi2 ex2 hj2 ey2 b2 hG2 z2 => ?_)
    obtain rfl := of_nj ex1 ex2 (by omega) (by omega)
    have hfl := hG.2.2.2.2.2.1.fl.2.1
    obtain rfl := of_nj ey1 ey2 (by omega) (by omega)
    exact lt_step (by omega) z2 (lx_ou ho1) (fun _ => hv1) (fun o6 o7 o8 => K _ _ _ o6 o7 o8 ⟨a, b2, g1, _, _, _, _, _, _, _, _, _, rfl, hC, hG2, hP, hO, hg1⟩)
theorem ml_count (hS : lS L xs r n sl F) (hr : r + 1 ≤ 3072) (hi : i + 5 < L) (hL : L ≤ 3072) (K : ∀ n' sl' F' o6 o7 o8, lS L xs (r + 1) n' sl' F' → mi_W (d + 600) 204 1165 [some (.ref mi_SC), some (.ref 0), some (.ref 505), some (.ref 574), some (.int (Int32.ofNat i)), o6, o7, o8] [] (n', sl', F') Q) : mi_W (d + 600) 204 1109 [some (.ref mi_SC), some (.ref 0), some (.ref 505), some (.ref 574), some (.int (Int32.ofNat i)), o6, o7, o8] [] (n, sl, F) Q := by
  obtain ⟨a, b, g, fd, oc, wr, w, many, ins, ev, re, con, rfl, hC, hG, hP, hO, hg⟩ := hS
  have hn := hG.2.2.2.2.2.2.2.1.nn
  have hn5 := hn.1
  have hN : n < 601000 ∧ sl ≤ 7293000 := hn.2
  have hsc := lx_sc (a := a) hg hG
  have q0 : hd b (hc a g) 0 = _ := lx_0
  obtain ⟨go, ho⟩ := hg.2.2.1
  have hD := hG.D0 (Nat.le_refl n)
  have hGu := hG.up (Nat.le_succ r) hr
  have hGt := hG.th hr
  have hix1 := lx_ix (i := i) (k := 1) (kk := 1) (by omega) hL (by decide) rfl
  have hix2 := lx_ix (i := i) (k := 2) (kk := 2) (by omega) hL (by decide) rfl
  have hix3 := lx_ix (i := i) (k := 3) (kk := 3) (by omega) hL (by decide) rfl
  have hix4 := lx_ix (i := i) (k := 4) (kk := 4) (by omega) hL (by decide) rfl
  have hix5 := lx_ix (i := i) (k := 5) (kk := 5) (by omega) hL (by decide) rfl
  refine b_204_1109 _ _ _ _ _ _ (by assumption) (Or.inr rfl) hix1 ?_
  refine b_133_0 _ _ _ (by assumption) (by omega) ?_
  rw [← hc_hd]
  refine cq_count hn5 hN hC (fun h1 => ?_) (fun i1 hi1 ex1 => ?_)
  · refine lx_ch (hp := 12) (by decide +kernel) hD hn5 ?_
    refine b_133_12 _ _ _ ?_
    refine lx_thr hg hn5 hN.1 (fun g1 go1 hg1 ho1 => ?_)
    have hG1 := hGt
    have hsc1 := lx_sc (a := a) hg1 hG1
    have q5 : hd b (hc a g1) 505 = _ := hd_9
    refine b_204_1120 _ _ _ _ _ _ (by assumption) (Or.inr rfl) hix1 (by assumption) (by omega) ?_
    refine gq_count hG1 (fun h2 b2 hG2 z2 => ?_) (fun i2 hi2 ex2 => absurd ⟨i2, hi2, ex2⟩ h1)
    exact lt_count (by omega) z2 (lx_ou ho1) (fun e => absurd e (by decide)) (fun o6 o7 o8 => K _ _ _ o6 o7 o8 ⟨a, b2, g1, _, _, _, _, _, _, _, _, _, rfl, hC, hG2, hP, hO, hg1⟩)
  · rw [hc_hd]
    have ho' : hd b (hc a g) 574 = _ := lx_ou ho
    refine b_133_7 _ _ _ _ _ _ (by assumption) (by omega) (by exact ⟨by decide, rfl, by decide⟩) ?_
    refine b_133_15 _ _ _ ?_
    refine lx_ret hg rfl (fun g1 go1 hg1 ho1 hv1 => ?_)
    have hG1 := hGu
    have hsc1 := lx_sc (a := a) hg1 hG1
    have q5 : hd b (hc a g1) 505 = _ := hd_9
    refine b_204_1120 _ _ _ _ _ _ (by assumption) (Or.inr rfl) hix1 (by assumption) (by omega) ?_
    refine gq_count hG1 (fun h2 => absurd ⟨i1, hi1, ex1⟩ h2) (fun i2 hi2 ex2 b2 hG2 z2 => ?_)
    obtain rfl := of_nj ex1 ex2 (by omega) (by omega)
    exact lt_count (by omega) z2 (lx_ou ho1) (fun _ => hv1) (fun o6 o7 o8 => K _ _ _ o6 o7 o8 ⟨a, b2, g1, _, _, _, _, _, _, _, _, _, rfl, hC, hG2, hP, hO, hg1⟩)
end
