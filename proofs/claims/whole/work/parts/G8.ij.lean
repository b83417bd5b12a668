/-! the law: a call, apply, analyse -/
section
variable {d L r n sl i : Nat} {xs : Nat → Int32} {F : Nat → mi_C} {Q : (Option Value ⊕ Nat) → mi_H → Prop} {o6 o7 o8 : Option Value}
theorem ml_apply (hS : lS L xs r n sl F) (hr : r + 1 ≤ 3072) (hi : i + 5 < L) (hL : L ≤ 3072) (K : ∀ n' sl' F' o6 o7 o8, lS L xs (r + 1) n' sl' F' → mi_W (d + 600) 204 1165 [some (.ref mi_SC), some (.ref 0), some (.ref 505), some (.ref 574), some (.int (Int32.ofNat i)), o6, o7, o8] [] (n', sl', F') Q) : mi_W (d + 600) 204 664 [some (.ref mi_SC), some (.ref 0), some (.ref 505), some (.ref 574), some (.int (Int32.ofNat i)), o6, o7, o8] [] (n, sl, F) Q := by
  obtain ⟨a, b, g, fd, oc, wr, w, many, ins, ev, re, con, rfl, hC, hG, hP, hO, hg⟩ := hS
  have hn := hG.2.2.2.2.2.2.2.1.nn
  have hn5 := hn.1
  have hN : n < 601000 ∧ sl ≤ 7293000 := hn.2
  have hsc := lx_sc (a := a) hg hG
  have q0 : hd b (hc a g) 0 = _ := lx_0
  obtain ⟨go, ho⟩ := hg.2.2.1
  have hD := hG.D0 (Nat.le_refl n)
  have hGu := hG.up (Nat.le_succ r) hr
  have hGt := hG.th hr
  have hix1 := lx_ix (i := i) (k := 1) (kk := 1) (by omega) hL (by decide) rfl
  have hix2 := lx_ix (i := i) (k := 2) (kk := 2) (by omega) hL (by decide) rfl
  have hix3 := lx_ix (i := i) (k := 3) (kk := 3) (by omega) hL (by decide) rfl
  have hix4 := lx_ix (i := i) (k := 4) (kk := 4) (by omega) hL (by decide) rfl
  have hix5 := lx_ix (i := i) (k := 5) (kk := 5) (by omega) hL (by decide) rfl
  cases con with
  | none =>
    refine b_204_664 _ _ _ _ _ _ _ _ _ _ _ _ _ _ _ (by assumption) (Or.inr rfl) hix1 (by assumption) (Or.inr rfl) hix2 (by assumption) (Or.inr rfl) hix3 (by assumption) (Or.inr rfl) hix4 ?_
    refine b_70_0 _ _ _ (by assumption) (by omega) ?_
    rw [← hc_hd]
    refine cq_apply0 hn5 hN hC ?_
    refine lx_ch (hp := 14) (by decide +kernel) hD hn5 ?_
    refine b_70_14 _ _ _ ?_
    refine lx_thr hg hn5 hN.1 (fun g1 go1 hg1 ho1 => ?_)
    have hG1 := hGt
    have hsc1 := lx_sc (a := a) hg1 hG1
    have q5 : hd b (hc a g1) 505 = _ := hd_9
    refine b_204_713 _ _ _ _ _ _ _ _ _ _ _ _ _ _ _ (by assumption) (Or.inr rfl) hix1 (by assumption) (Or.inr rfl) hix2 (by assumption) (Or.inr rfl) hix3 (by assumption) (Or.inr rfl) hix4 (by assumption) (by omega) ?_
    refine gq_apply0 hG1 (fun b2 hG2 z2 => ?_)
    exact lt_apply (by omega) z2 (lx_ou ho1) (fun e => absurd e (by decide)) (fun o6 o7 o8 => K _ _ _ o6 o7 o8 ⟨a, b2, g1, _, _, _, _, _, _, _, _, _, rfl, hC, hG2, hP, hO, hg1⟩)
  | some K0 =>
    refine b_204_664 _ _ _ _ _ _ _ _ _ _ _ _ _ _ _ (by assumption) (Or.inr rfl) hix1 (by assumption) (Or.inr rfl) hix2 (by assumption) (Or.inr rfl) hix3 (by assumption) (Or.inr rfl) hix4 ?_
    refine b_70_0 _ _ _ (by assumption) (by omega) ?_
    rw [← hc_hd]
    refine cq_apply (e := d + 484) hn5 hN hC (hP.2 K0 rfl) (fun x1 a1 t1 p1 q1 hC1 => ?_) (fun Z1 w1 a1 t1 p1 q1 hC1 => ?_)
    · rw [hc_hd]
      have ho' : hd b (hc a1 g) 574 = _ := lx_ou ho
      refine b_70_9 _ _ _ _ _ _ (by assumption) (by omega) (by exact ⟨by decide, rfl, by decide⟩) ?_
      refine b_70_18 _ _ _ ?_
      refine lx_ret hg rfl (fun g1 go1 hg1 ho1 hv1 => ?_)
      have hG1 := hGu
      have hsc1 := lx_sc (a := a1) hg1 hG1
      have q5 : hd b (hc a1 g1) 505 = _ := hd_9
      refine b_204_713 _ _ _ _ _ _ _ _ _ _ _ _ _ _ _ (by assumption) (Or.inr rfl) hix1 (by assumption) (Or.inr rfl) hix2 (by assumption) (Or.inr rfl) hix3 (by assumption) (Or.inr rfl) hix4 (by assumption) (by omega) ?_
      refine gq_apply (e := d + 493) hG1 hP (fun x2 b2 t2 p2 q2 hG2 z2 => ?_) (fun Z2 w2 b2 t2 => absurd (t1.symm.trans t2) (fun e => by cases e))
      obtain rfl := Except.error.inj (t1.symm.trans t2)
      exact lt_apply (by omega) z2 (lx_ou ho1) (fun _ => hv1) (fun o6 o7 o8 => K _ _ _ o6 o7 o8 ⟨a1, b2, g1, _, _, _, _, _, _, _, _, _, rfl, hC1, hG2, hP, hO, hg1⟩)
    · rw [hc_hd]
      have ho' : hd b (hc a1 g) 574 = _ := lx_ou ho
      refine b_70_9 _ _ _ _ _ _ (by assumption) (by omega) (by exact ⟨by decide, rfl, by decide⟩) ?_
      refine b_70_18 _ _ _ ?_
      refine lx_ret hg rfl (fun g1 go1 hg1 ho1 hv1 => ?_)
      have hG1 := hGu
      have hsc1 := lx_sc (a := a1) hg1 hG1
      have q5 : hd b (hc a1 g1) 505 = _ := hd_9
      refine b_204_713 _ _ _ _ _ _ _ _ _ _ _ _ _ _ _ (by assumption) (Or.inr rfl) hix1 (by assumption) (Or.inr rfl) hix2 (by assumption) (Or.inr rfl) hix3 (by assumption) (Or.inr rfl) hix4 (by assumption) (by omega) ?_
      refine gq_apply (e := d + 493) hG1 hP (fun x2 b2 t2 => absurd (t1.symm.trans t2) (fun e => by cases e)) (fun Z2 w2 b2 t2 hX2 hG2 z2 => ?_)
      obtain ⟨rfl, rfl⟩ := Prod.mk.inj (Except.ok.inj (t1.symm.trans t2))
      exact lt_apply (by omega) z2 (lx_ou ho1) (fun _ => hv1) (fun o6 o7 o8 => K _ _ _ o6 o7 o8 ⟨a1, b2, g1, _, _, _, _, _, _, _, _, _, rfl, hC1, hG2, hX2, hO, hg1⟩)
theorem ml_analyse (hS : lS L xs r n sl F) (hr : r + 1 ≤ 3072) (hi : i + 5 < L) (hL : L ≤ 3072) (K : ∀ n' sl' F' o6 o7 o8, lS L xs (r + 1) n' sl' F' → mi_W (d + 600) 204 1165 [some (.ref mi_SC), some (.ref 0), some (.ref 505), some (.ref 574), some (.int (Int32.ofNat i)), o6, o7, o8] [] (n', sl', F') Q) : mi_W (d + 600) 204 998 [some (.ref mi_SC), some (.ref 0), some (.ref 505), some (.ref 574), some (.int (Int32.ofNat i)), o6, o7, o8] [] (n, sl, F) Q := by
  obtain ⟨a, b, g, fd, oc, wr, w, many, ins, ev, re, con, rfl, hC, hG, hP, hO, hg⟩ := hS
  have hn := hG.2.2.2.2.2.2.2.1.nn
  have hn5 := hn.1
  have hN : n < 601000 ∧ sl ≤ 7293000 := hn.2
  have hsc := lx_sc (a := a) hg hG
  have q0 : hd b (hc a g) 0 = _ := lx_0
  obtain ⟨go, ho⟩ := hg.2.2.1
  have hD := hG.D0 (Nat.le_refl n)
  have hGu := hG.up (Nat.le_succ r) hr
  have hGt := hG.th hr
  have hix1 := lx_ix (i := i) (k := 1) (kk := 1) (by omega) hL (by decide) rfl
  have hix2 := lx_ix (i := i) (k := 2) (kk := 2) (by omega) hL (by decide) rfl
  have hix3 := lx_ix (i := i) (k := 3) (kk := 3) (by omega) hL (by decide) rfl
  have hix4 := lx_ix (i := i) (k := 4) (kk := 4) (by omega) hL (by decide) rfl
  have hix5 := lx_ix (i := i) (k := 5) (kk := 5) (by omega) hL (by decide) rfl
  cases con with
  | none =>
    refine b_204_998 _ _ _ ?_
    refine b_119_0 _ _ _ (by assumption) (by omega) ?_
    rw [← hc_hd]
    refine cq_analyse0 hn5 hN hC ?_
    refine lx_ch (hp := 11) (by decide +kernel) hD hn5 ?_
    refine b_119_11 _ _ _ ?_
    refine lx_thr hg hn5 hN.1 (fun g1 go1 hg1 ho1 => ?_)
    have hG1 := hGt
    have hsc1 := lx_sc (a := a) hg1 hG1
    have q5 : hd b (hc a g1) 505 = _ := hd_9
    refine b_204_1003 _ _ _ (by assumption) (by omega) ?_
    refine gq_analyse0 hG1 (fun b2 hG2 z2 => ?_)
    exact lt_analyse (by omega) z2 (lx_ou ho1) (fun e => absurd e (by decide)) (fun o6 o7 o8 => K _ _ _ o6 o7 o8 ⟨a, b2, g1, _, _, _, _, _, _, _, _, _, rfl, hC, hG2, hP, hO, hg1⟩)
  | some K0 =>
    obtain ⟨k, ee, hk, hee, hmc⟩ := (hP.2 K0 rfl).2.2
    obtain ⟨gl, hLv⟩ := lx_Lv (b := b) hg
    refine b_204_998 _ _ _ ?_
    refine b_119_0 _ _ _ (by assumption) (by omega) ?_
    rw [← hc_hd]
    refine cq_analyse (e := d + 482) hn5 hN hLv hC (hP.2 K0 rfl) hee hmc (fun h1 a1 hC1 => ?_) (fun h1 a1 hC1 => ?_)
    · rw [hc_hd]
      have ho' : hd b (hc a1 g) 574 = _ := lx_ou ho
      refine b_119_6 _ _ _ _ _ _ (by assumption) (by omega) (by exact ⟨by decide, rfl, by decide⟩) ?_
      refine b_119_14 _ _ _ ?_
      refine lx_ret hg rfl (fun g1 go1 hg1 ho1 hv1 => ?_)
      have hG1 := hGu
      have hsc1 := lx_sc (a := a1) hg1 hG1
      have q5 : hd b (hc a1 g1) 505 = _ := hd_9
      refine b_204_1003 _ _ _ (by assumption) (by omega) ?_
      refine gq_analyse (e := d + 66) hG1 (hP.2 K0 rfl) hee hk hmc (fun h2 b2 hG2 z2 => ?_) (fun h2 => absurd h1 h2)
      exact lt_analyse hG2.2.2.2.2.2.2.2.1.nn.1 z2 (lx_ou ho1) (fun _ => hv1) (fun o6 o7 o8 => K _ _ _ o6 o7 o8 ⟨a1, b2, g1, _, _, _, _, _, _, _, _, _, rfl, hC1, hG2, hP, hO, hg1⟩)
    · rw [hc_hd]
      have ho' : hd b (hc a1 g) 574 = _ := lx_ou ho
      refine b_119_6 _ _ _ _ _ _ (by assumption) (by omega) (by exact ⟨by decide, rfl, by decide⟩) ?_
      refine b_119_14 _ _ _ ?_
      refine lx_ret hg rfl (fun g1 go1 hg1 ho1 hv1 => ?_)
      have hG1 := hGu
      have hsc1 := lx_sc (a := a1) hg1 hG1
      have q5 : hd b (hc a1 g1) 505 = _ := hd_9
      refine b_204_1003 _ _ _ (by assumption) (by omega) ?_
      refine gq_analyse (e := d + 66) hG1 (hP.2 K0 rfl) hee hk hmc (fun h2 => absurd h2 h1) (fun h2 n2 s2 b2 hG2 z2 => ?_)
      exact lt_analyse hG2.2.2.2.2.2.2.2.1.nn.1 z2 (lx_ou ho1) (fun _ => hv1) (fun o6 o7 o8 => K _ _ _ o6 o7 o8 ⟨a1, b2, g1, _, _, _, _, _, _, _, _, _, rfl, hC1, hG2, hP, hO, hg1⟩)
end
