/-! the law: a call, end -/
section
variable {d L r n sl i : Nat} {xs : Nat → Int32} {F : Nat → mi_C} {Q : (Option Value ⊕ Nat) → mi_H → Prop} {o6 o7 o8 : Option Value}
theorem ml_end (hS : lS L xs r n sl F) (hr : r + 1 ≤ 3072) (hi : i + 5 < L) (hL : L ≤ 3072) (K : ∀ n' sl' F' o6 o7 o8, lS L xs (r + 1) n' sl' F' → mi_W (d + 600) 204 1165 [some (.ref mi_SC), some (.ref 0), some (.ref 505), some (.ref 574), some (.int (Int32.ofNat i)), o6, o7, o8] [] (n', sl', F') Q) : mi_W (d + 600) 204 216 [some (.ref mi_SC), some (.ref 0), some (.ref 505), some (.ref 574), some (.int (Int32.ofNat i)), o6, o7, o8] [] (n, sl, F) Q := by
  obtain ⟨a, b, g, fd, oc, wr, w, many, ins, ev, re, con, rfl, hC, hG, hP, hO, hg⟩ := hS
  have hn := hG.2.2.2.2.2.2.2.1.nn
  have hn5 := hn.1
  have hN : n < 601000 ∧ sl ≤ 7293000 := hn.2
  have hsc := lx_sc (a := a) hg hG
  have q0 : hd b (hc a g) 0 = _ := lx_0
  obtain ⟨go, ho⟩ := hg.2.2.1
  have hD := hG.D0 (Nat.le_refl n)
  have hGu := hG.up (Nat.le_succ r) hr
  have hGt := hG.th hr
  have hix1 := lx_ix (i := i) (k := 1) (kk := 1) (by omega) hL (by decide) rfl
  have hix2 := lx_ix (i := i) (k := 2) (kk := 2) (by omega) hL (by decide) rfl
  have hix3 := lx_ix (i := i) (k := 3) (kk := 3) (by omega) hL (by decide) rfl
  have hix4 := lx_ix (i := i) (k := 4) (kk := 4) (by omega) hL (by decide) rfl
  have hix5 := lx_ix (i := i) (k := 5) (kk := 5) (by omega) hL (by decide) rfl
  refine b_204_216 _ _ _ _ _ _ (by assumption) (Or.inr rfl) hix1 ?_
  refine b_16_0 _ _ _ (by assumption) (by omega) ?_
  rw [← hc_hd]
  refine cq_end (e := d + 385) (gg := rG (b.I 506) (b.I 507)) (lx_cG hg hG) hC (lx_og hG hO) (fun h1 => ?_) (fun L1 v1 a1 e1 l1 m1 w1 hC1 => ?_) (fun L1 s1 a1 e1 l1 m1 w1 r1 hC1 => ?_)
  · refine lx_ch (hp := 12) (by decide +kernel) hD hn5 ?_
    refine b_16_12 _ _ _ ?_
    refine lx_thr hg hn5 hN.1 (fun g1 go1 hg1 ho1 => ?_)
    have hG1 := hGt
    have hKN : n + 1 < 601000 := hGt.2.2.2.2.2.2.2.1.nn.2.1
    have hsc1 := lx_sc (a := a) hg1 hG1
    have q5 : hd b (hc a g1) 505 = _ := hd_9
    refine b_204_227 _ _ _ _ _ _ (by assumption) (Or.inr rfl) hix1 (by assumption) (by omega) ?_
    refine gq_end (e := d + 167) hG1 (lx_ks hg1 hKN) (fun h2 b2 hG2 z2 => ?_) (fun L2 v2 b2 e2 l2 m2 => absurd h1 (lx_end e2 l2 m2 hG.1.2.1)) (fun L2 s2 b2 e2 l2 m2 => absurd h1 (lx_end e2 l2 m2 hG.1.2.1))
    exact lt_end (by omega) z2 (lx_ou ho1) (fun e => absurd e (by decide)) (fun o6 o7 o8 => K _ _ _ o6 o7 o8 ⟨a, b2, g1, _, _, _, _, _, _, _, _, _, rfl, hC, hG2, hP, hO, hg1⟩)
  · refine lx_ch (hp := 15) (by decide +kernel) hD hn5 ?_
    refine b_16_15 _ _ _ ?_
    refine lx_thr hg hn5 hN.1 (fun g1 go1 hg1 ho1 => ?_)
    have hG1 := hGt
    have hKN : n + 1 < 601000 := hGt.2.2.2.2.2.2.2.1.nn.2.1
    have hsc1 := lx_sc (a := a1) hg1 hG1
    have q5 : hd b (hc a1 g1) 505 = _ := hd_9
    refine b_204_227 _ _ _ _ _ _ (by assumption) (Or.inr rfl) hix1 (by assumption) (by omega) ?_
    refine gq_end (e := d + 167) hG1 (lx_ks hg1 hKN) (fun h2 => absurd h2 (lx_end e1 l1 m1 hG.1.2.1)) (fun L2 v2 b2 e2 l2 m2 w2 hG2 z2 => ?_) (fun L2 s2 b2 e2 l2 m2 w2 r2 => absurd (of_nj e1 e2 (by omega) (by omega)) (fun q => lx_w3 hG hO m1 w1 q w2 r2))
    obtain rfl := of_nj e1 e2 (by omega) (by omega)
    obtain rfl := lx_w hG hO m1 w1 w2
    exact lt_end (by omega) z2 (lx_ou ho1) (fun e => absurd e (by decide)) (fun o6 o7 o8 => K _ _ _ o6 o7 o8 ⟨a1, b2, g1, _, _, _, _, _, _, _, _, _, rfl, hC1, hG2, ⟨hP.1, fun _ q => by cases q⟩, hO, hg1⟩)
  · rw [hc_hd]
    have ho' : hd b (hc a1 g) 574 = _ := lx_ou ho
    refine b_16_7 _ _ _ _ _ _ (by assumption) (by omega) (by exact ⟨by decide, rfl, by decide⟩) ?_
    refine b_16_18 _ _ _ ?_
    refine lx_ret hg rfl (fun g1 go1 hg1 ho1 hv1 => ?_)
    have hG1 := hGu
    have hKN := hN.1
    have hsc1 := lx_sc (a := a1) hg1 hG1
    have q5 : hd b (hc a1 g1) 505 = _ := hd_9
    refine b_204_227 _ _ _ _ _ _ (by assumption) (Or.inr rfl) hix1 (by assumption) (by omega) ?_
    refine gq_end (e := d + 167) hG1 (lx_ks hg1 hKN) (fun h2 => absurd h2 (lx_end e1 l1 m1 hG.1.2.1)) (fun L2 v2 b2 e2 l2 m2 w2 => absurd (of_nj e1 e2 (by omega) (by omega)) (fun q => lx_w2 hG hO m1 w1 r1 q w2)) (fun L2 s2 b2 e2 l2 m2 w2 r2 hK2 hG2 z2 => ?_)
    obtain rfl := of_nj e1 e2 (by omega) (by omega)
    obtain rfl := (Prod.mk.inj (Except.ok.inj (r1.symm.trans r2))).2
    exact lt_end (by omega) z2 (lx_ou ho1) (fun _ => hv1) (fun o6 o7 o8 => K _ _ _ o6 o7 o8 ⟨a1, b2, g1, _, _, _, _, _, _, _, _, _, rfl, hC1, hG2, ⟨hP.1, fun _ q => by cases q; exact hK2⟩, hO, hg1⟩)
end
